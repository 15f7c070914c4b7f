/-! ===== the methods, by number ===== -/
-- 0: java/lang/Integer.bitCount(I)I
-- 1: SleptFor$Folk.isPerson(I)Z
-- 2: SleptFor$Folk.isWork(I)Z
-- 3: SleptFor$Folk.areUnlike(II)Z
-- 4: SleptFor$Folk.everyone()I
-- 5: SleptFor$Folk.isGroup(III)Z
-- 6: SleptFor$Folk.copy(LSleptFor$Folk;)V
-- 7: SleptFor$Night.those(I)I
-- 8: SleptFor$Night.sleepsFor(II)Z
-- 9: SleptFor$Night.begin(III)V
-- 10: SleptFor$Night.makeIdle(I)V
-- 11: SleptFor$Night.draw(I)I
-- 12: SleptFor$Night.save([II)V
-- 13: SleptFor$Night.load([II)V
-- 14: SleptFor$Night.copy(LSleptFor$Night;)V
-- 15: SleptFor$Text.clear()V
-- 16: SleptFor$Text.put(I)V
-- 17: SleptFor$Text.goOnHere(I)V
-- 18: SleptFor$Text.copy(LSleptFor$Text;)V
-- 19: SleptFor$Steps.push(LSleptFor$Night;)V
-- 20: SleptFor$Steps.pop(LSleptFor$Night;)Z
-- 21: SleptFor$Steps.copy(LSleptFor$Steps;)V
-- 22: SleptFor$Valley.firstKept()I
-- 23: SleptFor$Valley.copy(LSleptFor$Valley;)V
-- 24: SleptFor$Laws.worthOf(IIIII)I
-- 25: SleptFor$Laws.burnOf(IIII)I
-- 26: SleptFor$Laws.soundOf(III)I
-- 27: SleptFor$Laws.priceOf(III)I
-- 28: SleptFor$Laws.worthNow(LSleptFor$Night;II)I
-- 29: SleptFor$Laws.burnNow(LSleptFor$Night;I)I
-- 30: SleptFor$Laws.fuelNow(LSleptFor$Night;I)I
-- 31: SleptFor$Laws.isLaw(I)Z
-- 32: SleptFor$Laws.valueOf(II)I
-- 33: SleptFor$Laws.joined(III)I
-- 34: SleptFor$Clock.pass(LSleptFor$Night;)V
-- 35: SleptFor$Clock.goForward(LSleptFor$Night;I)V
-- 36: SleptFor$Clock.wokenByNoise(LSleptFor$Night;)I
-- 37: SleptFor$Clock.isNoiseAbove(LSleptFor$Night;II)Z
-- 38: SleptFor$Clock.listen(LSleptFor$Night;)V
-- 39: SleptFor$Clock.spread(II)I
-- 40: SleptFor$Clock.wokenBy(LSleptFor$Night;I)I
-- 41: SleptFor$Pairing.list(I[I)I
-- 42: SleptFor$Pairing.prepare(IIIZ)V
-- 43: SleptFor$Pairing.weigh(IIZ)V
-- 44: SleptFor$Pairing.solve()Z
-- 45: SleptFor$Pairing.search(III)V
-- 46: SleptFor$Pairing.isWorthwhile(III)Z
-- 47: SleptFor$Pairing.whomFor(I)I
-- 48: SleptFor$Pairing.lowestShort()I
-- 49: SleptFor$Pairing.burnOfGroup(I)I
-- 50: SleptFor$Pairing.worthForGroup(I)I
-- 51: SleptFor$Pairing.peopleOf(I)I
-- 52: SleptFor$Rota.prepare(IIII)V
-- 53: SleptFor$Rota.solve()Z
-- 54: SleptFor$Rota.place(IIII)V
-- 55: SleptFor$Rota.changesToCome(II)I
-- 56: SleptFor$Rota.whoIn(I)I
-- 57: SleptFor$Questions.tierBehind(II)I
-- 58: SleptFor$Questions.leastGuard(II)I
-- 59: SleptFor$Questions.ofRing(I)I
-- 60: SleptFor$Questions.listDebts()V
-- 61: SleptFor$Questions.ringFrom(I)I
-- 62: SleptFor$Questions.alongRing(III)I
-- 63: SleptFor$Questions.nextInRing(II)I
-- 64: SleptFor$Questions.weighDreamless()V
-- 65: SleptFor$Questions.fuelWithout(II)I
-- 66: SleptFor$Questions.stoppedWithout(I)I
-- 67: SleptFor$Questions.leastStrike(I)I
-- 68: SleptFor$Questions.fitting(I)I
-- 69: SleptFor$Questions.asleepForNobody()I
-- 70: SleptFor$Reader.read(I)Z
-- 71: SleptFor$Reader.advance()V
-- 72: SleptFor$Reader.refuse(I)Z
-- 73: SleptFor$Reader.take(I)Z
-- 74: SleptFor$Reader.clause()Z
-- 75: SleptFor$Reader.lawOf(I)Z
-- 76: SleptFor$Reader.deed(II)Z
-- 77: SleptFor$Reader.numberOf([IIII)Z
-- 78: SleptFor$Reader.sum(I)Z
-- 79: SleptFor$Reader.product(I)Z
-- 80: SleptFor$Reader.one(I)Z
-- 81: SleptFor$Reader.plainNumber()Z
-- 82: SleptFor$Reader.name()Z
-- 83: SleptFor$Reader.choice(I)Z
-- 84: SleptFor$Reader.either(I)Z
-- 85: SleptFor$Reader.both(I)Z
-- 86: SleptFor$Reader.ask(I)Z
-- 87: SleptFor$Reader.byteAt(I)I
-- 88: SleptFor$Reader.isLetter(I)Z
-- 89: SleptFor$Reader.isDigit(I)Z
-- 90: SleptFor$Reader.split()V
-- 91: SleptFor$Reader.wordHere()I
-- 92: SleptFor$Reader.isWord(II)Z
-- 93: SleptFor$Reader.numberHere()I
-- 94: SleptFor$Reader.signHere(I)I
-- 95: SleptFor.person(II)I
-- 96: SleptFor.work(II)I
-- 97: SleptFor.may(II)Z
-- 98: SleptFor.hears(II)Z
-- 99: SleptFor.wake(II)Z
-- 100: SleptFor.sleep(II)Z
-- 101: SleptFor.idle(I)Z
-- 102: SleptFor.call(I)I
-- 103: SleptFor.repay(III)I
-- 104: SleptFor.hour(I)I
-- 105: SleptFor.year(II)I
-- 106: SleptFor.feed(IIIII)I
-- 107: SleptFor.end(I)I
-- 108: SleptFor.text()I
-- 109: SleptFor.fault(I)I
-- 110: SleptFor.by(I)Z
-- 111: SleptFor.played(I)I
-- 112: SleptFor.undo()I
-- 113: SleptFor.of(II)I
-- 114: SleptFor.ofWork(II)I
-- 115: SleptFor.owes(II)I
-- 116: SleptFor.kept(II)I
-- 117: SleptFor.foretoldDone(II)I
-- 118: SleptFor.foretoldStop(II)I
-- 119: SleptFor.match(IIIZI)I
-- 120: SleptFor.whoCannot(III)I
-- 121: SleptFor.behind(II)I
-- 122: SleptFor.valley(II)I
-- 123: SleptFor.rota(IIIII)I
-- 124: SleptFor.chain(I)I
-- 125: SleptFor.guard(II)I
-- 126: SleptFor.enough(IIIIZ)J
-- 127: SleptFor.ring(I)I
-- 128: SleptFor.without(I)I
-- 129: SleptFor.strike(I)I
-- 130: SleptFor.fits(I)I
-- 131: SleptFor.forNobody()I
-- 132: SleptFor.image()I
-- 133: SleptFor.back()I
-- 134: SleptFor.about(I)I
-- 135: SleptFor.isDoing(II)Z
-- 136: SleptFor.canPair(III)Z
-- 137: SleptFor.passHours(IZ)I
-- 138: SleptFor.takeTurn()I
-- 139: SleptFor.perform(LSleptFor$Text;I)Z
-- 140: SleptFor.putBytes(I)V
-- 141: SleptFor.lowestOf(I)I
-- 142: SleptFor.power(JI)J
-- 143: SleptFor.atLeast(IIJJ)J
-- 144: SleptFor.commonDivisor(JJ)J
-- 145: SleptForModel.in(III)Z
-- 146: SleptForModel.has(II)Z
-- 147: SleptForModel.many(I)I
-- 148: SleptForModel.copies(Z)V
-- 149: SleptForModel.isPerson(I)Z
-- 150: SleptForModel.isWork(I)Z
-- 151: SleptForModel.isSet(I)Z
-- 152: SleptForModel.person(II)I
-- 153: SleptForModel.work(II)I
-- 154: SleptForModel.may(II)Z
-- 155: SleptForModel.hears(II)Z
-- 156: SleptForModel.keepsStep()V
-- 157: SleptForModel.undo()I
-- 158: SleptForModel.put(I)V
-- 159: SleptForModel.feed(IIIII)I
-- 160: SleptForModel.end(I)I
-- 161: SleptForModel.isLetter(I)Z
-- 162: SleptForModel.wordOf(J)I
-- 163: SleptForModel.next()V
-- 164: SleptForModel.isSign(I)Z
-- 165: SleptForModel.isWord(I)Z
-- 166: SleptForModel.errs(I)V
-- 167: SleptForModel.emits(II)V
-- 168: SleptForModel.opensFrame(I)V
-- 169: SleptForModel.top()I
-- 170: SleptForModel.opensSign(I)Z
-- 171: SleptForModel.rank(I)I
-- 172: SleptForModel.works(I)V
-- 173: SleptForModel.waitsFor(I)V
-- 174: SleptForModel.asks()V
-- 175: SleptForModel.mayName(II)Z
-- 176: SleptForModel.nameNow()I
-- 177: SleptForModel.begins()V
-- 178: SleptForModel.oneIsOver()V
-- 179: SleptForModel.askIsOver()V
-- 180: SleptForModel.isAsking(I)Z
-- 181: SleptForModel.turnsTo(II)V
-- 182: SleptForModel.goesOn()V
-- 183: SleptForModel.asksOn()V
-- 184: SleptForModel.clauseIsOver()V
-- 185: SleptForModel.number(II)I
-- 186: SleptForModel.wasTold(I)Z
-- 187: SleptForModel.numberBehind(III)I
-- 188: SleptForModel.doing()V
-- 189: SleptForModel.clause()V
-- 190: SleptForModel.text()I
-- 191: SleptForModel.fault(I)I
-- 192: SleptForModel.bound(J)J
-- 193: SleptForModel.worked(IJJ)J
-- 194: SleptForModel.saysOf(I)J
-- 195: SleptForModel.by(I)Z
-- 196: SleptForModel.ordersOf(I)I
-- 197: SleptForModel.held(JII)I
-- 198: SleptForModel.laysNow()V
-- 199: SleptForModel.keepsNow()V
-- 200: SleptForModel.names(II)V
-- 201: SleptForModel.worthBy(IIII)I
-- 202: SleptForModel.burnBy(III)I
-- 203: SleptForModel.soundOf(I)I
-- 204: SleptForModel.priceOf(II)I
-- 205: SleptForModel.fuelOf(IIZ)I
-- 206: SleptForModel.allThat(I)I
-- 207: SleptForModel.drawn(I)I
-- 208: SleptForModel.runs(I)V
-- 209: SleptForModel.wakesOn(II)I
-- 210: SleptForModel.wokenByNoise()I
-- 211: SleptForModel.idles(I)V
-- 212: SleptForModel.hourGoes()I
-- 213: SleptForModel.keepsHour()V
-- 214: SleptForModel.hourDone()I
-- 215: SleptForModel.hour(I)I
-- 216: SleptForModel.isAt(II)Z
-- 217: SleptForModel.beginsTo(III)V
-- 218: SleptForModel.wake(II)Z
-- 219: SleptForModel.sleep(II)Z
-- 220: SleptForModel.idle(I)Z
-- 221: SleptForModel.calls(I)I
-- 222: SleptForModel.call(I)I
-- 223: SleptForModel.repay(III)I
-- 224: SleptForModel.draw(I)I
-- 225: SleptForModel.lowestFor(I)I
-- 226: SleptForModel.happens()I
-- 227: SleptForModel.year(II)I
-- 228: SleptForModel.hours(I)Z
-- 229: SleptForModel.played(I)I
-- 230: SleptForModel.of(II)I
-- 231: SleptForModel.ofWork(II)I
-- 232: SleptForModel.owes(II)I
-- 233: SleptForModel.isKept(I)Z
-- 234: SleptForModel.kept(II)I
-- 235: SleptForModel.foretoldDone(II)I
-- 236: SleptForModel.foretoldStop(II)I
-- 237: SleptForModel.laysMatch(III)Z
-- 238: SleptForModel.laysWay(I)Z
-- 239: SleptForModel.isEnough()Z
-- 240: SleptForModel.priceNow()I
-- 241: SleptForModel.sleepNow()I
-- 242: SleptForModel.match(IIIZI)I
-- 243: SleptForModel.cannot(I)Z
-- 244: SleptForModel.whoCannot(III)I
-- 245: SleptForModel.behind(II)I
-- 246: SleptForModel.valley(II)I
-- 247: SleptForModel.onEnd(I)I
-- 248: SleptForModel.mayShift(III)Z
-- 249: SleptForModel.changesTo(I)I
-- 250: SleptForModel.staysWithin(IIII)Z
-- 251: SleptForModel.rotaWithin(IIIII)Z
-- 252: SleptForModel.rota(IIIII)I
-- 253: SleptForModel.chain(I)I
-- 254: SleptForModel.guard(II)I
-- 255: SleptForModel.power(JI)J
-- 256: SleptForModel.common(JJ)J
-- 257: SleptForModel.choices(II)J
-- 258: SleptForModel.enough(IIIIZ)J
-- 259: SleptForModel.isInRound(II)Z
-- 260: SleptForModel.isRing(II)Z
-- 261: SleptForModel.laysRing()I
-- 262: SleptForModel.ring(I)I
-- 263: SleptForModel.stopsWithout(I)I
-- 264: SleptForModel.without(I)I
-- 265: SleptForModel.strike(I)I
-- 266: SleptForModel.fits(I)I
-- 267: SleptForModel.forNobody()I
-- 268: SleptForModel.image()I
-- 269: SleptForModel.back()I
-- 270: SleptForModel.about(I)I
def qqL : List gx_M := [
  (⟨"java/lang/Integer","bitCount","(I)I"⟩, prog_15_method_49_code, 1, (Option.some FieldType.int)),
  (⟨"SleptFor$Folk","isPerson","(I)Z"⟩, prog_3_method_2_code, 2, (Option.some FieldType.boolean)),
  (⟨"SleptFor$Folk","isWork","(I)Z"⟩, prog_3_method_3_code, 2, (Option.some FieldType.boolean)),
  (⟨"SleptFor$Folk","areUnlike","(II)Z"⟩, prog_3_method_4_code, 3, (Option.some FieldType.boolean)),
  (⟨"SleptFor$Folk","everyone","()I"⟩, prog_3_method_5_code, 1, (Option.some FieldType.int)),
  (⟨"SleptFor$Folk","isGroup","(III)Z"⟩, prog_3_method_6_code, 5, (Option.some FieldType.boolean)),
  (⟨"SleptFor$Folk","copy","(LSleptFor$Folk;)V"⟩, prog_3_method_7_code, 2, (Option.none : Option FieldType)),
  (⟨"SleptFor$Night","those","(I)I"⟩, prog_5_method_2_code, 4, (Option.some FieldType.int)),
  (⟨"SleptFor$Night","sleepsFor","(II)Z"⟩, prog_5_method_3_code, 3, (Option.some FieldType.boolean)),
  (⟨"SleptFor$Night","begin","(III)V"⟩, prog_5_method_4_code, 4, (Option.none : Option FieldType)),
  (⟨"SleptFor$Night","makeIdle","(I)V"⟩, prog_5_method_5_code, 3, (Option.none : Option FieldType)),
  (⟨"SleptFor$Night","draw","(I)I"⟩, prog_5_method_6_code, 3, (Option.some FieldType.int)),
  (⟨"SleptFor$Night","save","([II)V"⟩, prog_5_method_7_code, 3, (Option.none : Option FieldType)),
  (⟨"SleptFor$Night","load","([II)V"⟩, prog_5_method_8_code, 3, (Option.none : Option FieldType)),
  (⟨"SleptFor$Night","copy","(LSleptFor$Night;)V"⟩, prog_5_method_9_code, 2, (Option.none : Option FieldType)),
  (⟨"SleptFor$Text","clear","()V"⟩, prog_11_method_2_code, 2, (Option.none : Option FieldType)),
  (⟨"SleptFor$Text","put","(I)V"⟩, prog_11_method_3_code, 2, (Option.none : Option FieldType)),
  (⟨"SleptFor$Text","goOnHere","(I)V"⟩, prog_11_method_4_code, 2, (Option.none : Option FieldType)),
  (⟨"SleptFor$Text","copy","(LSleptFor$Text;)V"⟩, prog_11_method_5_code, 2, (Option.none : Option FieldType)),
  (⟨"SleptFor$Steps","push","(LSleptFor$Night;)V"⟩, prog_10_method_2_code, 2, (Option.none : Option FieldType)),
  (⟨"SleptFor$Steps","pop","(LSleptFor$Night;)Z"⟩, prog_10_method_3_code, 2, (Option.some FieldType.boolean)),
  (⟨"SleptFor$Steps","copy","(LSleptFor$Steps;)V"⟩, prog_10_method_4_code, 2, (Option.none : Option FieldType)),
  (⟨"SleptFor$Valley","firstKept","()I"⟩, prog_12_method_2_code, 1, (Option.some FieldType.int)),
  (⟨"SleptFor$Valley","copy","(LSleptFor$Valley;)V"⟩, prog_12_method_3_code, 2, (Option.none : Option FieldType)),
  (⟨"SleptFor$Laws","worthOf","(IIIII)I"⟩, prog_4_method_2_code, 6, (Option.some FieldType.int)),
  (⟨"SleptFor$Laws","burnOf","(IIII)I"⟩, prog_4_method_3_code, 5, (Option.some FieldType.int)),
  (⟨"SleptFor$Laws","soundOf","(III)I"⟩, prog_4_method_4_code, 4, (Option.some FieldType.int)),
  (⟨"SleptFor$Laws","priceOf","(III)I"⟩, prog_4_method_5_code, 4, (Option.some FieldType.int)),
  (⟨"SleptFor$Laws","worthNow","(LSleptFor$Night;II)I"⟩, prog_4_method_6_code, 4, (Option.some FieldType.int)),
  (⟨"SleptFor$Laws","burnNow","(LSleptFor$Night;I)I"⟩, prog_4_method_7_code, 3, (Option.some FieldType.int)),
  (⟨"SleptFor$Laws","fuelNow","(LSleptFor$Night;I)I"⟩, prog_4_method_8_code, 5, (Option.some FieldType.int)),
  (⟨"SleptFor$Laws","isLaw","(I)Z"⟩, prog_4_method_9_code, 3, (Option.some FieldType.boolean)),
  (⟨"SleptFor$Laws","valueOf","(II)I"⟩, prog_4_method_10_code, 9, (Option.some FieldType.int)),
  (⟨"SleptFor$Laws","joined","(III)I"⟩, prog_4_method_11_code, 5, (Option.some FieldType.int)),
  (⟨"SleptFor$Clock","pass","(LSleptFor$Night;)V"⟩, prog_2_method_2_code, 3, (Option.none : Option FieldType)),
  (⟨"SleptFor$Clock","goForward","(LSleptFor$Night;I)V"⟩, prog_2_method_3_code, 6, (Option.none : Option FieldType)),
  (⟨"SleptFor$Clock","wokenByNoise","(LSleptFor$Night;)I"⟩, prog_2_method_4_code, 4, (Option.some FieldType.int)),
  (⟨"SleptFor$Clock","isNoiseAbove","(LSleptFor$Night;II)Z"⟩, prog_2_method_5_code, 6, (Option.some FieldType.boolean)),
  (⟨"SleptFor$Clock","listen","(LSleptFor$Night;)V"⟩, prog_2_method_6_code, 4, (Option.none : Option FieldType)),
  (⟨"SleptFor$Clock","spread","(II)I"⟩, prog_2_method_7_code, 7, (Option.some FieldType.int)),
  (⟨"SleptFor$Clock","wokenBy","(LSleptFor$Night;I)I"⟩, prog_2_method_8_code, 3, (Option.some FieldType.int)),
  (⟨"SleptFor$Pairing","list","(I[I)I"⟩, prog_6_method_2_code, 4, (Option.some FieldType.int)),
  (⟨"SleptFor$Pairing","prepare","(IIIZ)V"⟩, prog_6_method_3_code, 7, (Option.none : Option FieldType)),
  (⟨"SleptFor$Pairing","weigh","(IIZ)V"⟩, prog_6_method_4_code, 8, (Option.none : Option FieldType)),
  (⟨"SleptFor$Pairing","solve","()Z"⟩, prog_6_method_5_code, 2, (Option.some FieldType.boolean)),
  (⟨"SleptFor$Pairing","search","(III)V"⟩, prog_6_method_6_code, 6, (Option.none : Option FieldType)),
  (⟨"SleptFor$Pairing","isWorthwhile","(III)Z"⟩, prog_6_method_7_code, 7, (Option.some FieldType.boolean)),
  (⟨"SleptFor$Pairing","whomFor","(I)I"⟩, prog_6_method_8_code, 3, (Option.some FieldType.int)),
  (⟨"SleptFor$Pairing","lowestShort","()I"⟩, prog_6_method_9_code, 2, (Option.some FieldType.int)),
  (⟨"SleptFor$Pairing","burnOfGroup","(I)I"⟩, prog_6_method_10_code, 4, (Option.some FieldType.int)),
  (⟨"SleptFor$Pairing","worthForGroup","(I)I"⟩, prog_6_method_11_code, 6, (Option.some FieldType.int)),
  (⟨"SleptFor$Pairing","peopleOf","(I)I"⟩, prog_6_method_12_code, 4, (Option.some FieldType.int)),
  (⟨"SleptFor$Rota","prepare","(IIII)V"⟩, prog_9_method_2_code, 6, (Option.none : Option FieldType)),
  (⟨"SleptFor$Rota","solve","()Z"⟩, prog_9_method_3_code, 2, (Option.some FieldType.boolean)),
  (⟨"SleptFor$Rota","place","(IIII)V"⟩, prog_9_method_4_code, 7, (Option.none : Option FieldType)),
  (⟨"SleptFor$Rota","changesToCome","(II)I"⟩, prog_9_method_5_code, 4, (Option.some FieldType.int)),
  (⟨"SleptFor$Rota","whoIn","(I)I"⟩, prog_9_method_6_code, 2, (Option.some FieldType.int)),
  (⟨"SleptFor$Questions","tierBehind","(II)I"⟩, prog_7_method_2_code, 8, (Option.some FieldType.int)),
  (⟨"SleptFor$Questions","leastGuard","(II)I"⟩, prog_7_method_3_code, 9, (Option.some FieldType.int)),
  (⟨"SleptFor$Questions","ofRing","(I)I"⟩, prog_7_method_4_code, 6, (Option.some FieldType.int)),
  (⟨"SleptFor$Questions","listDebts","()V"⟩, prog_7_method_5_code, 3, (Option.none : Option FieldType)),
  (⟨"SleptFor$Questions","ringFrom","(I)I"⟩, prog_7_method_6_code, 6, (Option.some FieldType.int)),
  (⟨"SleptFor$Questions","alongRing","(III)I"⟩, prog_7_method_7_code, 8, (Option.some FieldType.int)),
  (⟨"SleptFor$Questions","nextInRing","(II)I"⟩, prog_7_method_8_code, 4, (Option.some FieldType.int)),
  (⟨"SleptFor$Questions","weighDreamless","()V"⟩, prog_7_method_9_code, 2, (Option.none : Option FieldType)),
  (⟨"SleptFor$Questions","fuelWithout","(II)I"⟩, prog_7_method_10_code, 5, (Option.some FieldType.int)),
  (⟨"SleptFor$Questions","stoppedWithout","(I)I"⟩, prog_7_method_11_code, 5, (Option.some FieldType.int)),
  (⟨"SleptFor$Questions","leastStrike","(I)I"⟩, prog_7_method_12_code, 7, (Option.some FieldType.int)),
  (⟨"SleptFor$Questions","fitting","(I)I"⟩, prog_7_method_13_code, 8, (Option.some FieldType.int)),
  (⟨"SleptFor$Questions","asleepForNobody","()I"⟩, prog_7_method_14_code, 5, (Option.some FieldType.int)),
  (⟨"SleptFor$Reader","read","(I)Z"⟩, prog_8_method_2_code, 3, (Option.some FieldType.boolean)),
  (⟨"SleptFor$Reader","advance","()V"⟩, prog_8_method_3_code, 1, (Option.none : Option FieldType)),
  (⟨"SleptFor$Reader","refuse","(I)Z"⟩, prog_8_method_4_code, 2, (Option.some FieldType.boolean)),
  (⟨"SleptFor$Reader","take","(I)Z"⟩, prog_8_method_5_code, 2, (Option.some FieldType.boolean)),
  (⟨"SleptFor$Reader","clause","()Z"⟩, prog_8_method_6_code, 4, (Option.some FieldType.boolean)),
  (⟨"SleptFor$Reader","lawOf","(I)Z"⟩, prog_8_method_7_code, 3, (Option.some FieldType.boolean)),
  (⟨"SleptFor$Reader","deed","(II)Z"⟩, prog_8_method_8_code, 3, (Option.some FieldType.boolean)),
  (⟨"SleptFor$Reader","numberOf","([IIII)Z"⟩, prog_8_method_9_code, 5, (Option.some FieldType.boolean)),
  (⟨"SleptFor$Reader","sum","(I)Z"⟩, prog_8_method_10_code, 5, (Option.some FieldType.boolean)),
  (⟨"SleptFor$Reader","product","(I)Z"⟩, prog_8_method_11_code, 5, (Option.some FieldType.boolean)),
  (⟨"SleptFor$Reader","one","(I)Z"⟩, prog_8_method_12_code, 4, (Option.some FieldType.boolean)),
  (⟨"SleptFor$Reader","plainNumber","()Z"⟩, prog_8_method_13_code, 1, (Option.some FieldType.boolean)),
  (⟨"SleptFor$Reader","name","()Z"⟩, prog_8_method_14_code, 1, (Option.some FieldType.boolean)),
  (⟨"SleptFor$Reader","choice","(I)Z"⟩, prog_8_method_15_code, 4, (Option.some FieldType.boolean)),
  (⟨"SleptFor$Reader","either","(I)Z"⟩, prog_8_method_16_code, 4, (Option.some FieldType.boolean)),
  (⟨"SleptFor$Reader","both","(I)Z"⟩, prog_8_method_17_code, 4, (Option.some FieldType.boolean)),
  (⟨"SleptFor$Reader","ask","(I)Z"⟩, prog_8_method_18_code, 4, (Option.some FieldType.boolean)),
  (⟨"SleptFor$Reader","byteAt","(I)I"⟩, prog_8_method_19_code, 2, (Option.some FieldType.int)),
  (⟨"SleptFor$Reader","isLetter","(I)Z"⟩, prog_8_method_20_code, 1, (Option.some FieldType.boolean)),
  (⟨"SleptFor$Reader","isDigit","(I)Z"⟩, prog_8_method_21_code, 1, (Option.some FieldType.boolean)),
  (⟨"SleptFor$Reader","split","()V"⟩, prog_8_method_22_code, 3, (Option.none : Option FieldType)),
  (⟨"SleptFor$Reader","wordHere","()I"⟩, prog_8_method_23_code, 3, (Option.some FieldType.int)),
  (⟨"SleptFor$Reader","isWord","(II)Z"⟩, prog_8_method_24_code, 6, (Option.some FieldType.boolean)),
  (⟨"SleptFor$Reader","numberHere","()I"⟩, prog_8_method_25_code, 2, (Option.some FieldType.int)),
  (⟨"SleptFor$Reader","signHere","(I)I"⟩, prog_8_method_26_code, 3, (Option.some FieldType.int)),
  (⟨"SleptFor","person","(II)I"⟩, prog_1_method_2_code, 5, (Option.some FieldType.int)),
  (⟨"SleptFor","work","(II)I"⟩, prog_1_method_3_code, 5, (Option.some FieldType.int)),
  (⟨"SleptFor","may","(II)Z"⟩, prog_1_method_4_code, 4, (Option.some FieldType.boolean)),
  (⟨"SleptFor","hears","(II)Z"⟩, prog_1_method_5_code, 4, (Option.some FieldType.boolean)),
  (⟨"SleptFor","wake","(II)Z"⟩, prog_1_method_6_code, 3, (Option.some FieldType.boolean)),
  (⟨"SleptFor","sleep","(II)Z"⟩, prog_1_method_7_code, 4, (Option.some FieldType.boolean)),
  (⟨"SleptFor","idle","(I)Z"⟩, prog_1_method_8_code, 2, (Option.some FieldType.boolean)),
  (⟨"SleptFor","call","(I)I"⟩, prog_1_method_9_code, 3, (Option.some FieldType.int)),
  (⟨"SleptFor","repay","(III)I"⟩, prog_1_method_10_code, 6, (Option.some FieldType.int)),
  (⟨"SleptFor","hour","(I)I"⟩, prog_1_method_11_code, 2, (Option.some FieldType.int)),
  (⟨"SleptFor","year","(II)I"⟩, prog_1_method_12_code, 6, (Option.some FieldType.int)),
  (⟨"SleptFor","feed","(IIIII)I"⟩, prog_1_method_13_code, 6, (Option.some FieldType.int)),
  (⟨"SleptFor","end","(I)I"⟩, prog_1_method_14_code, 2, (Option.some FieldType.int)),
  (⟨"SleptFor","text","()I"⟩, prog_1_method_15_code, 3, (Option.some FieldType.int)),
  (⟨"SleptFor","fault","(I)I"⟩, prog_1_method_16_code, 2, (Option.some FieldType.int)),
  (⟨"SleptFor","by","(I)Z"⟩, prog_1_method_17_code, 2, (Option.some FieldType.boolean)),
  (⟨"SleptFor","played","(I)I"⟩, prog_1_method_18_code, 4, (Option.some FieldType.int)),
  (⟨"SleptFor","undo","()I"⟩, prog_1_method_19_code, 1, (Option.some FieldType.int)),
  (⟨"SleptFor","of","(II)I"⟩, prog_1_method_20_code, 5, (Option.some FieldType.int)),
  (⟨"SleptFor","ofWork","(II)I"⟩, prog_1_method_21_code, 4, (Option.some FieldType.int)),
  (⟨"SleptFor","owes","(II)I"⟩, prog_1_method_22_code, 3, (Option.some FieldType.int)),
  (⟨"SleptFor","kept","(II)I"⟩, prog_1_method_23_code, 4, (Option.some FieldType.int)),
  (⟨"SleptFor","foretoldDone","(II)I"⟩, prog_1_method_24_code, 4, (Option.some FieldType.int)),
  (⟨"SleptFor","foretoldStop","(II)I"⟩, prog_1_method_25_code, 4, (Option.some FieldType.int)),
  (⟨"SleptFor","match","(IIIZI)I"⟩, prog_1_method_26_code, 7, (Option.some FieldType.int)),
  (⟨"SleptFor","whoCannot","(III)I"⟩, prog_1_method_27_code, 4, (Option.some FieldType.int)),
  (⟨"SleptFor","behind","(II)I"⟩, prog_1_method_28_code, 4, (Option.some FieldType.int)),
  (⟨"SleptFor","valley","(II)I"⟩, prog_1_method_29_code, 5, (Option.some FieldType.int)),
  (⟨"SleptFor","rota","(IIIII)I"⟩, prog_1_method_30_code, 7, (Option.some FieldType.int)),
  (⟨"SleptFor","chain","(I)I"⟩, prog_1_method_31_code, 2, (Option.some FieldType.int)),
  (⟨"SleptFor","guard","(II)I"⟩, prog_1_method_32_code, 3, (Option.some FieldType.int)),
  (⟨"SleptFor","enough","(IIIIZ)J"⟩, prog_1_method_33_code, 17, (Option.some FieldType.long)),
  (⟨"SleptFor","ring","(I)I"⟩, prog_1_method_34_code, 2, (Option.some FieldType.int)),
  (⟨"SleptFor","without","(I)I"⟩, prog_1_method_35_code, 2, (Option.some FieldType.int)),
  (⟨"SleptFor","strike","(I)I"⟩, prog_1_method_36_code, 2, (Option.some FieldType.int)),
  (⟨"SleptFor","fits","(I)I"⟩, prog_1_method_37_code, 2, (Option.some FieldType.int)),
  (⟨"SleptFor","forNobody","()I"⟩, prog_1_method_38_code, 1, (Option.some FieldType.int)),
  (⟨"SleptFor","image","()I"⟩, prog_1_method_39_code, 1, (Option.some FieldType.int)),
  (⟨"SleptFor","back","()I"⟩, prog_1_method_40_code, 1, (Option.some FieldType.int)),
  (⟨"SleptFor","about","(I)I"⟩, prog_1_method_41_code, 2, (Option.some FieldType.int)),
  (⟨"SleptFor","isDoing","(II)Z"⟩, prog_1_method_42_code, 3, (Option.some FieldType.boolean)),
  (⟨"SleptFor","canPair","(III)Z"⟩, prog_1_method_43_code, 5, (Option.some FieldType.boolean)),
  (⟨"SleptFor","passHours","(IZ)I"⟩, prog_1_method_44_code, 7, (Option.some FieldType.int)),
  (⟨"SleptFor","takeTurn","()I"⟩, prog_1_method_45_code, 6, (Option.some FieldType.int)),
  (⟨"SleptFor","perform","(LSleptFor$Text;I)Z"⟩, prog_1_method_46_code, 6, (Option.some FieldType.boolean)),
  (⟨"SleptFor","putBytes","(I)V"⟩, prog_1_method_47_code, 3, (Option.none : Option FieldType)),
  (⟨"SleptFor","lowestOf","(I)I"⟩, prog_1_method_48_code, 2, (Option.some FieldType.int)),
  (⟨"SleptFor","power","(JI)J"⟩, prog_1_method_49_code, 6, (Option.some FieldType.long)),
  (⟨"SleptFor","atLeast","(IIJJ)J"⟩, prog_1_method_50_code, 11, (Option.some FieldType.long)),
  (⟨"SleptFor","commonDivisor","(JJ)J"⟩, prog_1_method_51_code, 11, (Option.some FieldType.long)),
  (⟨"SleptForModel","in","(III)Z"⟩, prog_14_method_2_code, 3, (Option.some FieldType.boolean)),
  (⟨"SleptForModel","has","(II)Z"⟩, prog_14_method_3_code, 2, (Option.some FieldType.boolean)),
  (⟨"SleptForModel","many","(I)I"⟩, prog_14_method_4_code, 3, (Option.some FieldType.int)),
  (⟨"SleptForModel","copies","(Z)V"⟩, prog_14_method_5_code, 3, (Option.none : Option FieldType)),
  (⟨"SleptForModel","isPerson","(I)Z"⟩, prog_14_method_6_code, 2, (Option.some FieldType.boolean)),
  (⟨"SleptForModel","isWork","(I)Z"⟩, prog_14_method_7_code, 2, (Option.some FieldType.boolean)),
  (⟨"SleptForModel","isSet","(I)Z"⟩, prog_14_method_8_code, 2, (Option.some FieldType.boolean)),
  (⟨"SleptForModel","person","(II)I"⟩, prog_14_method_9_code, 5, (Option.some FieldType.int)),
  (⟨"SleptForModel","work","(II)I"⟩, prog_14_method_10_code, 4, (Option.some FieldType.int)),
  (⟨"SleptForModel","may","(II)Z"⟩, prog_14_method_11_code, 3, (Option.some FieldType.boolean)),
  (⟨"SleptForModel","hears","(II)Z"⟩, prog_14_method_12_code, 3, (Option.some FieldType.boolean)),
  (⟨"SleptForModel","keepsStep","()V"⟩, prog_14_method_13_code, 2, (Option.none : Option FieldType)),
  (⟨"SleptForModel","undo","()I"⟩, prog_14_method_14_code, 2, (Option.some FieldType.int)),
  (⟨"SleptForModel","put","(I)V"⟩, prog_14_method_15_code, 3, (Option.none : Option FieldType)),
  (⟨"SleptForModel","feed","(IIIII)I"⟩, prog_14_method_16_code, 6, (Option.some FieldType.int)),
  (⟨"SleptForModel","end","(I)I"⟩, prog_14_method_17_code, 2, (Option.some FieldType.int)),
  (⟨"SleptForModel","isLetter","(I)Z"⟩, prog_14_method_18_code, 1, (Option.some FieldType.boolean)),
  (⟨"SleptForModel","wordOf","(J)I"⟩, prog_14_method_19_code, 2, (Option.some FieldType.int)),
  (⟨"SleptForModel","next","()V"⟩, prog_14_method_20_code, 5, (Option.none : Option FieldType)),
  (⟨"SleptForModel","isSign","(I)Z"⟩, prog_14_method_21_code, 2, (Option.some FieldType.boolean)),
  (⟨"SleptForModel","isWord","(I)Z"⟩, prog_14_method_22_code, 2, (Option.some FieldType.boolean)),
  (⟨"SleptForModel","errs","(I)V"⟩, prog_14_method_23_code, 2, (Option.none : Option FieldType)),
  (⟨"SleptForModel","emits","(II)V"⟩, prog_14_method_24_code, 3, (Option.none : Option FieldType)),
  (⟨"SleptForModel","opensFrame","(I)V"⟩, prog_14_method_25_code, 2, (Option.none : Option FieldType)),
  (⟨"SleptForModel","top","()I"⟩, prog_14_method_26_code, 1, (Option.some FieldType.int)),
  (⟨"SleptForModel","opensSign","(I)Z"⟩, prog_14_method_27_code, 2, (Option.some FieldType.boolean)),
  (⟨"SleptForModel","rank","(I)I"⟩, prog_14_method_28_code, 1, (Option.some FieldType.int)),
  (⟨"SleptForModel","works","(I)V"⟩, prog_14_method_29_code, 2, (Option.none : Option FieldType)),
  (⟨"SleptForModel","waitsFor","(I)V"⟩, prog_14_method_30_code, 2, (Option.none : Option FieldType)),
  (⟨"SleptForModel","asks","()V"⟩, prog_14_method_31_code, 2, (Option.none : Option FieldType)),
  (⟨"SleptForModel","mayName","(II)Z"⟩, prog_14_method_32_code, 2, (Option.some FieldType.boolean)),
  (⟨"SleptForModel","nameNow","()I"⟩, prog_14_method_33_code, 1, (Option.some FieldType.int)),
  (⟨"SleptForModel","begins","()V"⟩, prog_14_method_34_code, 3, (Option.none : Option FieldType)),
  (⟨"SleptForModel","oneIsOver","()V"⟩, prog_14_method_35_code, 1, (Option.none : Option FieldType)),
  (⟨"SleptForModel","askIsOver","()V"⟩, prog_14_method_36_code, 1, (Option.none : Option FieldType)),
  (⟨"SleptForModel","isAsking","(I)Z"⟩, prog_14_method_37_code, 1, (Option.some FieldType.boolean)),
  (⟨"SleptForModel","turnsTo","(II)V"⟩, prog_14_method_38_code, 4, (Option.none : Option FieldType)),
  (⟨"SleptForModel","goesOn","()V"⟩, prog_14_method_39_code, 3, (Option.none : Option FieldType)),
  (⟨"SleptForModel","asksOn","()V"⟩, prog_14_method_40_code, 1, (Option.none : Option FieldType)),
  (⟨"SleptForModel","clauseIsOver","()V"⟩, prog_14_method_41_code, 1, (Option.none : Option FieldType)),
  (⟨"SleptForModel","number","(II)I"⟩, prog_14_method_42_code, 4, (Option.some FieldType.int)),
  (⟨"SleptForModel","wasTold","(I)Z"⟩, prog_14_method_43_code, 4, (Option.some FieldType.boolean)),
  (⟨"SleptForModel","numberBehind","(III)I"⟩, prog_14_method_44_code, 4, (Option.some FieldType.int)),
  (⟨"SleptForModel","doing","()V"⟩, prog_14_method_45_code, 4, (Option.none : Option FieldType)),
  (⟨"SleptForModel","clause","()V"⟩, prog_14_method_46_code, 1, (Option.none : Option FieldType)),
  (⟨"SleptForModel","text","()I"⟩, prog_14_method_47_code, 4, (Option.some FieldType.int)),
  (⟨"SleptForModel","fault","(I)I"⟩, prog_14_method_48_code, 2, (Option.some FieldType.int)),
  (⟨"SleptForModel","bound","(J)J"⟩, prog_14_method_49_code, 2, (Option.some FieldType.long)),
  (⟨"SleptForModel","worked","(IJJ)J"⟩, prog_14_method_50_code, 5, (Option.some FieldType.long)),
  (⟨"SleptForModel","saysOf","(I)J"⟩, prog_14_method_51_code, 5, (Option.some FieldType.long)),
  (⟨"SleptForModel","by","(I)Z"⟩, prog_14_method_52_code, 2, (Option.some FieldType.boolean)),
  (⟨"SleptForModel","ordersOf","(I)I"⟩, prog_14_method_53_code, 5, (Option.some FieldType.int)),
  (⟨"SleptForModel","held","(JII)I"⟩, prog_14_method_54_code, 4, (Option.some FieldType.int)),
  (⟨"SleptForModel","laysNow","()V"⟩, prog_14_method_55_code, 2, (Option.none : Option FieldType)),
  (⟨"SleptForModel","keepsNow","()V"⟩, prog_14_method_56_code, 2, (Option.none : Option FieldType)),
  (⟨"SleptForModel","names","(II)V"⟩, prog_14_method_57_code, 3, (Option.none : Option FieldType)),
  (⟨"SleptForModel","worthBy","(IIII)I"⟩, prog_14_method_58_code, 6, (Option.some FieldType.int)),
  (⟨"SleptForModel","burnBy","(III)I"⟩, prog_14_method_59_code, 5, (Option.some FieldType.int)),
  (⟨"SleptForModel","soundOf","(I)I"⟩, prog_14_method_60_code, 3, (Option.some FieldType.int)),
  (⟨"SleptForModel","priceOf","(II)I"⟩, prog_14_method_61_code, 4, (Option.some FieldType.int)),
  (⟨"SleptForModel","fuelOf","(IIZ)I"⟩, prog_14_method_62_code, 6, (Option.some FieldType.int)),
  (⟨"SleptForModel","allThat","(I)I"⟩, prog_14_method_63_code, 4, (Option.some FieldType.int)),
  (⟨"SleptForModel","drawn","(I)I"⟩, prog_14_method_64_code, 3, (Option.some FieldType.int)),
  (⟨"SleptForModel","runs","(I)V"⟩, prog_14_method_65_code, 4, (Option.none : Option FieldType)),
  (⟨"SleptForModel","wakesOn","(II)I"⟩, prog_14_method_66_code, 8, (Option.some FieldType.int)),
  (⟨"SleptForModel","wokenByNoise","()I"⟩, prog_14_method_67_code, 4, (Option.some FieldType.int)),
  (⟨"SleptForModel","idles","(I)V"⟩, prog_14_method_68_code, 3, (Option.none : Option FieldType)),
  (⟨"SleptForModel","hourGoes","()I"⟩, prog_14_method_69_code, 2, (Option.some FieldType.int)),
  (⟨"SleptForModel","keepsHour","()V"⟩, prog_14_method_70_code, 2, (Option.none : Option FieldType)),
  (⟨"SleptForModel","hourDone","()I"⟩, prog_14_method_71_code, 2, (Option.some FieldType.int)),
  (⟨"SleptForModel","hour","(I)I"⟩, prog_14_method_72_code, 4, (Option.some FieldType.int)),
  (⟨"SleptForModel","isAt","(II)Z"⟩, prog_14_method_73_code, 3, (Option.some FieldType.boolean)),
  (⟨"SleptForModel","beginsTo","(III)V"⟩, prog_14_method_74_code, 4, (Option.none : Option FieldType)),
  (⟨"SleptForModel","wake","(II)Z"⟩, prog_14_method_75_code, 3, (Option.some FieldType.boolean)),
  (⟨"SleptForModel","sleep","(II)Z"⟩, prog_14_method_76_code, 3, (Option.some FieldType.boolean)),
  (⟨"SleptForModel","idle","(I)Z"⟩, prog_14_method_77_code, 2, (Option.some FieldType.boolean)),
  (⟨"SleptForModel","calls","(I)I"⟩, prog_14_method_78_code, 3, (Option.some FieldType.int)),
  (⟨"SleptForModel","call","(I)I"⟩, prog_14_method_79_code, 2, (Option.some FieldType.int)),
  (⟨"SleptForModel","repay","(III)I"⟩, prog_14_method_80_code, 4, (Option.some FieldType.int)),
  (⟨"SleptForModel","draw","(I)I"⟩, prog_14_method_81_code, 3, (Option.some FieldType.int)),
  (⟨"SleptForModel","lowestFor","(I)I"⟩, prog_14_method_82_code, 4, (Option.some FieldType.int)),
  (⟨"SleptForModel","happens","()I"⟩, prog_14_method_83_code, 4, (Option.some FieldType.int)),
  (⟨"SleptForModel","year","(II)I"⟩, prog_14_method_84_code, 5, (Option.some FieldType.int)),
  (⟨"SleptForModel","hours","(I)Z"⟩, prog_14_method_85_code, 3, (Option.some FieldType.boolean)),
  (⟨"SleptForModel","played","(I)I"⟩, prog_14_method_86_code, 5, (Option.some FieldType.int)),
  (⟨"SleptForModel","of","(II)I"⟩, prog_14_method_87_code, 4, (Option.some FieldType.int)),
  (⟨"SleptForModel","ofWork","(II)I"⟩, prog_14_method_88_code, 3, (Option.some FieldType.int)),
  (⟨"SleptForModel","owes","(II)I"⟩, prog_14_method_89_code, 3, (Option.some FieldType.int)),
  (⟨"SleptForModel","isKept","(I)Z"⟩, prog_14_method_90_code, 2, (Option.some FieldType.boolean)),
  (⟨"SleptForModel","kept","(II)I"⟩, prog_14_method_91_code, 3, (Option.some FieldType.int)),
  (⟨"SleptForModel","foretoldDone","(II)I"⟩, prog_14_method_92_code, 5, (Option.some FieldType.int)),
  (⟨"SleptForModel","foretoldStop","(II)I"⟩, prog_14_method_93_code, 5, (Option.some FieldType.int)),
  (⟨"SleptForModel","laysMatch","(III)Z"⟩, prog_14_method_94_code, 7, (Option.some FieldType.boolean)),
  (⟨"SleptForModel","laysWay","(I)Z"⟩, prog_14_method_95_code, 5, (Option.some FieldType.boolean)),
  (⟨"SleptForModel","isEnough","()Z"⟩, prog_14_method_96_code, 4, (Option.some FieldType.boolean)),
  (⟨"SleptForModel","priceNow","()I"⟩, prog_14_method_97_code, 3, (Option.some FieldType.int)),
  (⟨"SleptForModel","sleepNow","()I"⟩, prog_14_method_98_code, 3, (Option.some FieldType.int)),
  (⟨"SleptForModel","match","(IIIZI)I"⟩, prog_14_method_99_code, 13, (Option.some FieldType.int)),
  (⟨"SleptForModel","cannot","(I)Z"⟩, prog_14_method_100_code, 6, (Option.some FieldType.boolean)),
  (⟨"SleptForModel","whoCannot","(III)I"⟩, prog_14_method_101_code, 7, (Option.some FieldType.int)),
  (⟨"SleptForModel","behind","(II)I"⟩, prog_14_method_102_code, 8, (Option.some FieldType.int)),
  (⟨"SleptForModel","valley","(II)I"⟩, prog_14_method_103_code, 5, (Option.some FieldType.int)),
  (⟨"SleptForModel","onEnd","(I)I"⟩, prog_14_method_104_code, 3, (Option.some FieldType.int)),
  (⟨"SleptForModel","mayShift","(III)Z"⟩, prog_14_method_105_code, 6, (Option.some FieldType.boolean)),
  (⟨"SleptForModel","changesTo","(I)I"⟩, prog_14_method_106_code, 4, (Option.some FieldType.int)),
  (⟨"SleptForModel","staysWithin","(IIII)Z"⟩, prog_14_method_107_code, 7, (Option.some FieldType.boolean)),
  (⟨"SleptForModel","rotaWithin","(IIIII)Z"⟩, prog_14_method_108_code, 7, (Option.some FieldType.boolean)),
  (⟨"SleptForModel","rota","(IIIII)I"⟩, prog_14_method_109_code, 8, (Option.some FieldType.int)),
  (⟨"SleptForModel","chain","(I)I"⟩, prog_14_method_110_code, 2, (Option.some FieldType.int)),
  (⟨"SleptForModel","guard","(II)I"⟩, prog_14_method_111_code, 6, (Option.some FieldType.int)),
  (⟨"SleptForModel","power","(JI)J"⟩, prog_14_method_112_code, 6, (Option.some FieldType.long)),
  (⟨"SleptForModel","common","(JJ)J"⟩, prog_14_method_113_code, 10, (Option.some FieldType.long)),
  (⟨"SleptForModel","choices","(II)J"⟩, prog_14_method_114_code, 5, (Option.some FieldType.long)),
  (⟨"SleptForModel","enough","(IIIIZ)J"⟩, prog_14_method_115_code, 16, (Option.some FieldType.long)),
  (⟨"SleptForModel","isInRound","(II)Z"⟩, prog_14_method_116_code, 4, (Option.some FieldType.boolean)),
  (⟨"SleptForModel","isRing","(II)Z"⟩, prog_14_method_117_code, 4, (Option.some FieldType.boolean)),
  (⟨"SleptForModel","laysRing","()I"⟩, prog_14_method_118_code, 3, (Option.some FieldType.int)),
  (⟨"SleptForModel","ring","(I)I"⟩, prog_14_method_119_code, 6, (Option.some FieldType.int)),
  (⟨"SleptForModel","stopsWithout","(I)I"⟩, prog_14_method_120_code, 4, (Option.some FieldType.int)),
  (⟨"SleptForModel","without","(I)I"⟩, prog_14_method_121_code, 2, (Option.some FieldType.int)),
  (⟨"SleptForModel","strike","(I)I"⟩, prog_14_method_122_code, 5, (Option.some FieldType.int)),
  (⟨"SleptForModel","fits","(I)I"⟩, prog_14_method_123_code, 6, (Option.some FieldType.int)),
  (⟨"SleptForModel","forNobody","()I"⟩, prog_14_method_124_code, 3, (Option.some FieldType.int)),
  (⟨"SleptForModel","image","()I"⟩, prog_14_method_125_code, 1, (Option.some FieldType.int)),
  (⟨"SleptForModel","back","()I"⟩, prog_14_method_126_code, 1, (Option.some FieldType.int)),
  (⟨"SleptForModel","about","(I)I"⟩, prog_14_method_127_code, 2, (Option.some FieldType.int))]
noncomputable def mt0 : Nat → gx_M := fun i => match gx_nth qqL i with | some q => q | none => (⟨"", "", ""⟩, .empty, 0, none)
