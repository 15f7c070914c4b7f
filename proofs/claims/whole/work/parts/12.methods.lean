/-! ===== the methods, by number ===== -/
-- 0: java/lang/Integer.bitCount(I)I
-- 1: SleptFor$Folk.isPerson(I)Z
-- 2: SleptFor$Folk.isWork(I)Z
-- 3: SleptFor$Folk.areUnlike(II)Z
-- 4: SleptFor$Folk.everyone()I
-- 5: SleptFor$Folk.isGroup(III)Z
-- 6: SleptFor$Folk.copy(LSleptFor$Folk;)V
-- 7: SleptFor$Night.those(I)I
-- 8: SleptFor$Night.sleepsFor(II)Z
-- 9: SleptFor$Night.begin(III)V
-- 10: SleptFor$Night.makeIdle(I)V
-- 11: SleptFor$Night.draw(I)I
-- 12: SleptFor$Night.save([II)V
-- 13: SleptFor$Night.load([II)V
-- 14: SleptFor$Night.copy(LSleptFor$Night;)V
-- 15: SleptFor$Text.clear()V
-- 16: SleptFor$Text.put(I)V
-- 17: SleptFor$Text.goOnHere(I)V
-- 18: SleptFor$Text.copy(LSleptFor$Text;)V
-- 19: SleptFor$Steps.push(LSleptFor$Night;)V
-- 20: SleptFor$Steps.pop(LSleptFor$Night;)Z
-- 21: SleptFor$Steps.copy(LSleptFor$Steps;)V
-- 22: SleptFor$Valley.firstKept()I
-- 23: SleptFor$Valley.copy(LSleptFor$Valley;)V
-- 24: SleptFor$Laws.worthOf(IIIII)I
-- 25: SleptFor$Laws.burnOf(IIII)I
-- 26: SleptFor$Laws.soundOf(III)I
-- 27: SleptFor$Laws.priceOf(III)I
-- 28: SleptFor$Laws.worthNow(LSleptFor$Night;II)I
-- 29: SleptFor$Laws.burnNow(LSleptFor$Night;I)I
-- 30: SleptFor$Laws.fuelNow(LSleptFor$Night;I)I
-- 31: SleptFor$Laws.isLaw(I)Z
-- 32: SleptFor$Laws.valueOf(II)I
-- 33: SleptFor$Laws.joined(III)I
-- 34: SleptFor$Clock.pass(LSleptFor$Night;)V
-- 35: SleptFor$Clock.goForward(LSleptFor$Night;I)V
-- 36: SleptFor$Clock.wokenByNoise(LSleptFor$Night;)I
-- 37: SleptFor$Clock.isNoiseAbove(LSleptFor$Night;II)Z
-- 38: SleptFor$Clock.listen(LSleptFor$Night;)V
-- 39: SleptFor$Clock.spread(II)I
-- 40: SleptFor$Clock.wokenBy(LSleptFor$Night;I)I
-- 41: SleptFor$Pairing.list(I[I)I
-- 42: SleptFor$Pairing.prepare(IIIZ)V
-- 43: SleptFor$Pairing.weigh(IIZ)V
-- 44: SleptFor$Pairing.solve()Z
-- 45: SleptFor$Pairing.search(III)V
-- 46: SleptFor$Pairing.isWorthwhile(III)Z
-- 47: SleptFor$Pairing.whomFor(I)I
-- 48: SleptFor$Pairing.lowestShort()I
-- 49: SleptFor$Pairing.burnOfGroup(I)I
-- 50: SleptFor$Pairing.worthForGroup(I)I
-- 51: SleptFor$Pairing.peopleOf(I)I
-- 52: SleptFor$Rota.prepare(IIII)V
-- 53: SleptFor$Rota.solve()Z
-- 54: SleptFor$Rota.place(IIII)V
-- 55: SleptFor$Rota.changesToCome(II)I
-- 56: SleptFor$Rota.whoIn(I)I
-- 57: SleptFor$Questions.tierBehind(II)I
-- 58: SleptFor$Questions.leastGuard(II)I
-- 59: SleptFor$Questions.ofRing(I)I
-- 60: SleptFor$Questions.listDebts()V
-- 61: SleptFor$Questions.ringFrom(I)I
-- 62: SleptFor$Questions.alongRing(III)I
-- 63: SleptFor$Questions.nextInRing(II)I
-- 64: SleptFor$Questions.weighDreamless()V
-- 65: SleptFor$Questions.fuelWithout(II)I
-- 66: SleptFor$Questions.stoppedWithout(I)I
-- 67: SleptFor$Questions.leastStrike(I)I
-- 68: SleptFor$Questions.fitting(I)I
-- 69: SleptFor$Questions.asleepForNobody()I
-- 70: SleptFor$Reader.read(I)Z
-- 71: SleptFor$Reader.advance()V
-- 72: SleptFor$Reader.refuse(I)Z
-- 73: SleptFor$Reader.take(I)Z
-- 74: SleptFor$Reader.clause()Z
-- 75: SleptFor$Reader.lawOf(I)Z
-- 76: SleptFor$Reader.deed(II)Z
-- 77: SleptFor$Reader.numberOf([IIII)Z
-- 78: SleptFor$Reader.sum(I)Z
-- 79: SleptFor$Reader.product(I)Z
-- 80: SleptFor$Reader.one(I)Z
-- 81: SleptFor$Reader.plainNumber()Z
-- 82: SleptFor$Reader.name()Z
-- 83: SleptFor$Reader.choice(I)Z
-- 84: SleptFor$Reader.either(I)Z
-- 85: SleptFor$Reader.both(I)Z
-- 86: SleptFor$Reader.ask(I)Z
-- 87: SleptFor$Reader.byteAt(I)I
-- 88: SleptFor$Reader.isLetter(I)Z
-- 89: SleptFor$Reader.isDigit(I)Z
-- 90: SleptFor$Reader.split()V
-- 91: SleptFor$Reader.wordHere()I
-- 92: SleptFor$Reader.isWord(II)Z
-- 93: SleptFor$Reader.numberHere()I
-- 94: SleptFor$Reader.signHere(I)I
-- 95: SleptFor.person(II)I
-- 96: SleptFor.work(II)I
-- 97: SleptFor.may(II)Z
-- 98: SleptFor.hears(II)Z
-- 99: SleptFor.wake(II)Z
-- 100: SleptFor.sleep(II)Z
-- 101: SleptFor.idle(I)Z
-- 102: SleptFor.call(I)I
-- 103: SleptFor.repay(III)I
-- 104: SleptFor.hour(I)I
-- 105: SleptFor.year(II)I
-- 106: SleptFor.feed(IIIII)I
-- 107: SleptFor.end(I)I
-- 108: SleptFor.text()I
-- 109: SleptFor.fault(I)I
-- 110: SleptFor.by(I)Z
-- 111: SleptFor.played(I)I
-- 112: SleptFor.undo()I
-- 113: SleptFor.of(II)I
-- 114: SleptFor.ofWork(II)I
-- 115: SleptFor.owes(II)I
-- 116: SleptFor.kept(II)I
-- 117: SleptFor.foretoldDone(II)I
-- 118: SleptFor.foretoldStop(II)I
-- 119: SleptFor.match(IIIZI)I
-- 120: SleptFor.whoCannot(III)I
-- 121: SleptFor.behind(II)I
-- 122: SleptFor.valley(II)I
-- 123: SleptFor.rota(IIIII)I
-- 124: SleptFor.chain(I)I
-- 125: SleptFor.guard(II)I
-- 126: SleptFor.enough(IIIIZ)J
-- 127: SleptFor.ring(I)I
-- 128: SleptFor.without(I)I
-- 129: SleptFor.strike(I)I
-- 130: SleptFor.fits(I)I
-- 131: SleptFor.forNobody()I
-- 132: SleptFor.image()I
-- 133: SleptFor.back()I
-- 134: SleptFor.about(I)I
-- 135: SleptFor.isDoing(II)Z
-- 136: SleptFor.canPair(III)Z
-- 137: SleptFor.passHours(IZ)I
-- 138: SleptFor.takeTurn()I
-- 139: SleptFor.perform(LSleptFor$Text;I)Z
-- 140: SleptFor.putBytes(I)V
-- 141: SleptFor.lowestOf(I)I
-- 142: SleptFor.power(JI)J
-- 143: SleptFor.atLeast(IIJJ)J
-- 144: SleptFor.commonDivisor(JJ)J
-- 145: SleptForModel.in(III)Z
-- 146: SleptForModel.has(II)Z
-- 147: SleptForModel.many(I)I
-- 148: SleptForModel.copies(Z)V
-- 149: SleptForModel.isPerson(I)Z
-- 150: SleptForModel.isWork(I)Z
-- 151: SleptForModel.isSet(I)Z
-- 152: SleptForModel.person(II)I
-- 153: SleptForModel.work(II)I
-- 154: SleptForModel.may(II)Z
-- 155: SleptForModel.hears(II)Z
-- 156: SleptForModel.keepsStep()V
-- 157: SleptForModel.undo()I
-- 158: SleptForModel.put(I)V
-- 159: SleptForModel.feed(IIIII)I
-- 160: SleptForModel.end(I)I
-- 161: SleptForModel.isLetter(I)Z
-- 162: SleptForModel.wordOf(J)I
-- 163: SleptForModel.next()V
-- 164: SleptForModel.isSign(I)Z
-- 165: SleptForModel.isWord(I)Z
-- 166: SleptForModel.errs(I)V
-- 167: SleptForModel.emits(II)V
-- 168: SleptForModel.opensFrame(I)V
-- 169: SleptForModel.top()I
-- 170: SleptForModel.opensSign(I)Z
-- 171: SleptForModel.rank(I)I
-- 172: SleptForModel.works(I)V
-- 173: SleptForModel.waitsFor(I)V
-- 174: SleptForModel.asks()V
-- 175: SleptForModel.mayName(II)Z
-- 176: SleptForModel.nameNow()I
-- 177: SleptForModel.begins()V
-- 178: SleptForModel.oneIsOver()V
-- 179: SleptForModel.askIsOver()V
-- 180: SleptForModel.isAsking(I)Z
-- 181: SleptForModel.turnsTo(II)V
-- 182: SleptForModel.goesOn()V
-- 183: SleptForModel.asksOn()V
-- 184: SleptForModel.clauseIsOver()V
-- 185: SleptForModel.number(II)I
-- 186: SleptForModel.wasTold(I)Z
-- 187: SleptForModel.numberBehind(III)I
-- 188: SleptForModel.doing()V
-- 189: SleptForModel.clause()V
-- 190: SleptForModel.text()I
-- 191: SleptForModel.fault(I)I
-- 192: SleptForModel.bound(J)J
-- 193: SleptForModel.worked(IJJ)J
-- 194: SleptForModel.saysOf(I)J
-- 195: SleptForModel.by(I)Z
-- 196: SleptForModel.ordersOf(I)I
-- 197: SleptForModel.held(JII)I
-- 198: SleptForModel.laysNow()V
-- 199: SleptForModel.keepsNow()V
-- 200: SleptForModel.names(II)V
-- 201: SleptForModel.worthBy(IIII)I
-- 202: SleptForModel.burnBy(III)I
-- 203: SleptForModel.soundOf(I)I
-- 204: SleptForModel.priceOf(II)I
-- 205: SleptForModel.fuelOf(IIZ)I
-- 206: SleptForModel.allThat(I)I
-- 207: SleptForModel.drawn(I)I
-- 208: SleptForModel.runs(I)V
-- 209: SleptForModel.wakesOn(II)I
-- 210: SleptForModel.wokenByNoise()I
-- 211: SleptForModel.idles(I)V
-- 212: SleptForModel.hourGoes()I
-- 213: SleptForModel.keepsHour()V
-- 214: SleptForModel.hourDone()I
-- 215: SleptForModel.hour(I)I
-- 216: SleptForModel.isAt(II)Z
-- 217: SleptForModel.beginsTo(III)V
-- 218: SleptForModel.wake(II)Z
-- 219: SleptForModel.sleep(II)Z
-- 220: SleptForModel.idle(I)Z
-- 221: SleptForModel.calls(I)I
-- 222: SleptForModel.call(I)I
-- 223: SleptForModel.repay(III)I
-- 224: SleptForModel.draw(I)I
-- 225: SleptForModel.lowestFor(I)I
-- 226: SleptForModel.happens()I
-- 227: SleptForModel.year(II)I
-- 228: SleptForModel.hours(I)Z
-- 229: SleptForModel.played(I)I
-- 230: SleptForModel.of(II)I
-- 231: SleptForModel.ofWork(II)I
-- 232: SleptForModel.owes(II)I
-- 233: SleptForModel.isKept(I)Z
-- 234: SleptForModel.kept(II)I
-- 235: SleptForModel.foretoldDone(II)I
-- 236: SleptForModel.foretoldStop(II)I
-- 237: SleptForModel.laysMatch(III)Z
-- 238: SleptForModel.laysWay(I)Z
-- 239: SleptForModel.isEnough()Z
-- 240: SleptForModel.priceNow()I
-- 241: SleptForModel.sleepNow()I
-- 242: SleptForModel.match(IIIZI)I
-- 243: SleptForModel.cannot(I)Z
-- 244: SleptForModel.whoCannot(III)I
-- 245: SleptForModel.behind(II)I
-- 246: SleptForModel.valley(II)I
-- 247: SleptForModel.onEnd(I)I
-- 248: SleptForModel.mayShift(III)Z
-- 249: SleptForModel.changesTo(I)I
-- 250: SleptForModel.staysWithin(IIII)Z
-- 251: SleptForModel.rotaWithin(IIIII)Z
-- 252: SleptForModel.rota(IIIII)I
-- 253: SleptForModel.chain(I)I
-- 254: SleptForModel.guard(II)I
-- 255: SleptForModel.power(JI)J
-- 256: SleptForModel.common(JJ)J
-- 257: SleptForModel.choices(II)J
-- 258: SleptForModel.enough(IIIIZ)J
-- 259: SleptForModel.isInRound(II)Z
-- 260: SleptForModel.isRing(II)Z
-- 261: SleptForModel.laysRing()I
-- 262: SleptForModel.ring(I)I
-- 263: SleptForModel.stopsWithout(I)I
-- 264: SleptForModel.without(I)I
-- 265: SleptForModel.strike(I)I
-- 266: SleptForModel.fits(I)I
-- 267: SleptForModel.forNobody()I
-- 268: SleptForModel.image()I
-- 269: SleptForModel.back()I
-- 270: SleptForModel.about(I)I
def qqL : List gx_M := [
  (⟨"java/lang/Integer","bitCount","(I)I"⟩, prog_15_method_49_code, 1, (Option.some FieldType.int)),
  (⟨"SleptFor$Folk","isPerson","(I)Z"⟩, prog_3_method_2_code, 2, (Option.some FieldType.boolean)),
  (⟨"SleptFor$Folk","isWork","(I)Z"⟩, prog_3_method_3_code, 2, (Option.some FieldType.boolean)),
  (⟨"SleptFor$Folk","areUnlike","(II)Z"⟩, prog_3_method_4_code, 3, (Option.some FieldType.boolean)),
  (⟨"SleptFor$Folk","everyone","()I"⟩, prog_3_method_5_code, 1, (Option.some FieldType.int)),
  (⟨"SleptFor$Folk","isGroup","(III)Z"⟩, prog_3_method_6_code, 5, (Option.some FieldType.boolean)),
  (⟨"SleptFor$Folk","copy","(LSleptFor$Folk;)V"⟩, prog_3_method_7_code, 2, (Option.none : Option FieldType)),
  (⟨"SleptFor$Night","those","(I)I"⟩, prog_5_method_2_code, 4, (Option.some FieldType.int)),
  (⟨"SleptFor$Night","sleepsFor","(II)Z"⟩, prog_5_method_3_code, 3, (Option.some FieldType.boolean)),
  (⟨"SleptFor$Night","begin","(III)V"⟩, prog_5_method_4_code, 4, (Option.none : Option FieldType)),
  (⟨"SleptFor$Night","makeIdle","(I)V"⟩, prog_5_method_5_code, 3, (Option.none : Option FieldType)),
  (⟨"SleptFor$Night","draw","(I)I"⟩, prog_5_method_6_code, 3, (Option.some FieldType.int)),
  (⟨"SleptFor$Night","save","([II)V"⟩, prog_5_method_7_code, 3, (Option.none : Option FieldType)),
  (⟨"SleptFor$Night","load","([II)V"⟩, prog_5_method_8_code, 3, (Option.none : Option FieldType)),
  (⟨"SleptFor$Night","copy","(LSleptFor$Night;)V"⟩, prog_5_method_9_code, 2, (Option.none : Option FieldType)),
  (⟨"SleptFor$Text","clear","()V"⟩, prog_11_method_2_code, 2, (Option.none : Option FieldType)),
  (⟨"SleptFor$Text","put","(I)V"⟩, prog_11_method_3_code, 2, (Option.none : Option FieldType)),
  (⟨"SleptFor$Text","goOnHere","(I)V"⟩, prog_11_method_4_code, 2, (Option.none : Option FieldType)),
  (⟨"SleptFor$Text","copy","(LSleptFor$Text;)V"⟩, prog_11_method_5_code, 2, (Option.none : Option FieldType)),
  (⟨"SleptFor$Steps","push","(LSleptFor$Night;)V"⟩, prog_10_method_2_code, 2, (Option.none : Option FieldType)),
  (⟨"SleptFor$Steps","pop","(LSleptFor$Night;)Z"⟩, prog_10_method_3_code, 2, (Option.some FieldType.boolean)),
  (⟨"SleptFor$Steps","copy","(LSleptFor$Steps;)V"⟩, prog_10_method_4_code, 2, (Option.none : Option FieldType)),
  (⟨"SleptFor$Valley","firstKept","()I"⟩, prog_12_method_2_code, 1, (Option.some FieldType.int)),
  (⟨"SleptFor$Valley","copy","(LSleptFor$Valley;)V"⟩, prog_12_method_3_code, 2, (Option.none : Option FieldType)),
  (⟨"SleptFor$Laws","worthOf","(IIIII)I"⟩, prog_4_method_2_code, 6, (Option.some FieldType.int)),
  (⟨"SleptFor$Laws","burnOf","(IIII)I"⟩, prog_4_method_3_code, 5, (Option.some FieldType.int)),
  (⟨"SleptFor$Laws","soundOf","(III)I"⟩, prog_4_method_4_code, 4, (Option.some FieldType.int)),
  (⟨"SleptFor$Laws","priceOf","(III)I"⟩, prog_4_method_5_code, 4, (Option.some FieldType.int)),
  (⟨"SleptFor$Laws","worthNow","(LSleptFor$Night;II)I"⟩, prog_4_method_6_code, 4, (Option.some FieldType.int)),
  (⟨"SleptFor$Laws","burnNow","(LSleptFor$Night;I)I"⟩, prog_4_method_7_code, 3, (Option.some FieldType.int)),
  (⟨"SleptFor$Laws","fuelNow","(LSleptFor$Night;I)I"⟩, prog_4_method_8_code, 5, (Option.some FieldType.int)),
  (⟨"SleptFor$Laws","isLaw","(I)Z"⟩, prog_4_method_9_code, 3, (Option.some FieldType.boolean)),
  (⟨"SleptFor$Laws","valueOf","(II)I"⟩, prog_4_method_10_code, 9, (Option.some FieldType.int)),
  (⟨"SleptFor$Laws","joined","(III)I"⟩, prog_4_method_11_code, 5, (Option.some FieldType.int)),
  (⟨"SleptFor$Clock","pass","(LSleptFor$Night;)V"⟩, prog_2_method_2_code, 3, (Option.none : Option FieldType)),
  (⟨"SleptFor$Clock","goForward","(LSleptFor$Night;I)V"⟩, prog_2_method_3_code, 6, (Option.none : Option FieldType)),
  (⟨"SleptFor$Clock","wokenByNoise","(LSleptFor$Night;)I"⟩, prog_2_method_4_code, 4, (Option.some FieldType.int)),
  (⟨"SleptFor$Clock","isNoiseAbove","(LSleptFor$Night;II)Z"⟩, prog_2_method_5_code, 6, (Option.some FieldType.boolean)),
  (⟨"SleptFor$Clock","listen","(LSleptFor$Night;)V"⟩, prog_2_method_6_code, 4, (Option.none : Option FieldType)),
  (⟨"SleptFor$Clock","spread","(II)I"⟩, prog_2_method_7_code, 7, (Option.some FieldType.int)),
  (⟨"SleptFor$Clock","wokenBy","(LSleptFor$Night;I)I"⟩, prog_2_method_8_code, 3, (Option.some FieldType.int)),
  (⟨"SleptFor$Pairing","list","(I[I)I"⟩, prog_6_method_2_code, 4, (Option.some FieldType.int)),
  (⟨"SleptFor$Pairing","prepare","(IIIZ)V"⟩, prog_6_method_3_code, 7, (Option.none : Option FieldType)),
  (⟨"SleptFor$Pairing","weigh","(IIZ)V"⟩, prog_6_method_4_code, 8, (Option.none : Option FieldType)),
  (⟨"SleptFor$Pairing","solve","()Z"⟩, prog_6_method_5_code, 2, (Option.some FieldType.boolean)),
  (⟨"SleptFor$Pairing","search","(III)V"⟩, prog_6_method_6_code, 6, (Option.none : Option FieldType)),
  (⟨"SleptFor$Pairing","isWorthwhile","(III)Z"⟩, prog_6_method_7_code, 7, (Option.some FieldType.boolean)),
  (⟨"SleptFor$Pairing","whomFor","(I)I"⟩, prog_6_method_8_code, 3, (Option.some FieldType.int)),
  (⟨"SleptFor$Pairing","lowestShort","()I"⟩, prog_6_method_9_code, 2, (Option.some FieldType.int)),
  (⟨"SleptFor$Pairing","burnOfGroup","(I)I"⟩, prog_6_method_10_code, 4, (Option.some FieldType.int)),
  (⟨"SleptFor$Pairing","worthForGroup","(I)I"⟩, prog_6_method_11_code, 6, (Option.some FieldType.int)),
  (⟨"SleptFor$Pairing","peopleOf","(I)I"⟩, prog_6_method_12_code, 4, (Option.some FieldType.int)),
  (⟨"SleptFor$Rota","prepare","(IIII)V"⟩, prog_9_method_2_code, 6, (Option.none : Option FieldType)),
  (⟨"SleptFor$Rota","solve","()Z"⟩, prog_9_method_3_code, 2, (Option.some FieldType.boolean)),
  (⟨"SleptFor$Rota","place","(IIII)V"⟩, prog_9_method_4_code, 7, (Option.none : Option FieldType)),
  (⟨"SleptFor$Rota","changesToCome","(II)I"⟩, prog_9_method_5_code, 4, (Option.some FieldType.int)),
  (⟨"SleptFor$Rota","whoIn","(I)I"⟩, prog_9_method_6_code, 2, (Option.some FieldType.int)),
  (⟨"SleptFor$Questions","tierBehind","(II)I"⟩, prog_7_method_2_code, 8, (Option.some FieldType.int)),
  (⟨"SleptFor$Questions","leastGuard","(II)I"⟩, prog_7_method_3_code, 9, (Option.some FieldType.int)),
  (⟨"SleptFor$Questions","ofRing","(I)I"⟩, prog_7_method_4_code, 6, (Option.some FieldType.int)),
  (⟨"SleptFor$Questions","listDebts","()V"⟩, prog_7_method_5_code, 3, (Option.none : Option FieldType)),
  (⟨"SleptFor$Questions","ringFrom","(I)I"⟩, prog_7_method_6_code, 6, (Option.some FieldType.int)),
  (⟨"SleptFor$Questions","alongRing","(III)I"⟩, prog_7_method_7_code, 8, (Option.some FieldType.int)),
  (⟨"SleptFor$Questions","nextInRing","(II)I"⟩, prog_7_method_8_code, 4, (Option.some FieldType.int)),
  (⟨"SleptFor$Questions","weighDreamless","()V"⟩, prog_7_method_9_code, 2, (Option.none : Option FieldType)),
  (⟨"SleptFor$Questions","fuelWithout","(II)I"⟩, prog_7_method_10_code, 5, (Option.some FieldType.int)),
  (⟨"SleptFor$Questions","stoppedWithout","(I)I"⟩, prog_7_method_11_code, 5, (Option.some FieldType.int)),
  (⟨"SleptFor$Questions","leastStrike","(I)I"⟩, prog_7_method_12_code, 7, (Option.some FieldType.int)),
  (⟨"SleptFor$Questions","fitting","(I)I"⟩, prog_7_method_13_code, 8, (Option.some FieldType.int)),
  (⟨"SleptFor$Questions","asleepForNobody","()I"⟩, prog_7_method_14_code, 5, (Option.some FieldType.int)),
  (⟨"SleptFor$Reader","read","(I)Z"⟩, prog_8_method_2_code, 3, (Option.some FieldType.boolean)),
  (⟨"SleptFor$Reader","advance","()V"⟩, prog_8_method_3_code, 1, (Option.none : Option FieldType)),
  (⟨"SleptFor$Reader","refuse","(I)Z"⟩, prog_8_method_4_code, 2, (Option.some FieldType.boolean)),
  (⟨"SleptFor$Reader","take","(I)Z"⟩, prog_8_method_5_code, 2, (Option.some FieldType.boolean)),
  (⟨"SleptFor$Reader","clause","()Z"⟩, prog_8_method_6_code, 4, (Option.some FieldType.boolean)),
  (⟨"SleptFor$Reader","lawOf","(I)Z"⟩, prog_8_method_7_code, 3, (Option.some FieldType.boolean)),
  (⟨"SleptFor$Reader","deed","(II)Z"⟩, prog_8_method_8_code, 3, (Option.some FieldType.boolean)),
  (⟨"SleptFor$Reader","numberOf","([IIII)Z"⟩, prog_8_method_9_code, 5, (Option.some FieldType.boolean)),
  (⟨"SleptFor$Reader","sum","(I)Z"⟩, prog_8_method_10_code, 5, (Option.some FieldType.boolean)),
  (⟨"SleptFor$Reader","product","(I)Z"⟩, prog_8_method_11_code, 5, (Option.some FieldType.boolean)),
  (⟨"SleptFor$Reader","one","(I)Z"⟩, prog_8_method_12_code, 4, (Option.some FieldType.boolean)),
  (⟨"SleptFor$Reader","plainNumber","()Z"⟩, prog_8_method_13_code, 1, (Option.some FieldType.boolean)),
  (⟨"SleptFor$Reader","name","()Z"⟩, prog_8_method_14_code, 1, (Option.some FieldType.boolean)),
  (⟨"SleptFor$Reader","choice","(I)Z"⟩, prog_8_method_15_code, 4, (Option.some FieldType.boolean)),
  (⟨"SleptFor$Reader","either","(I)Z"⟩, prog_8_method_16_code, 4, (Option.some FieldType.boolean)),
  (⟨"SleptFor$Reader","both","(I)Z"⟩, prog_8_method_17_code, 4, (Option.some FieldType.boolean)),
  (⟨"SleptFor$Reader","ask","(I)Z"⟩, prog_8_method_18_code, 4, (Option.some FieldType.boolean)),
  (⟨"SleptFor$Reader","byteAt","(I)I"⟩, prog_8_method_19_code, 2, (Option.some FieldType.int)),
  (⟨"SleptFor$Reader","isLetter","(I)Z"⟩, prog_8_method_20_code, 1, (Option.some FieldType.boolean)),
  (⟨"SleptFor$Reader","isDigit","(I)Z"⟩, prog_8_method_21_code, 1, (Option.some FieldType.boolean)),
  (⟨"SleptFor$Reader","split","()V"⟩, prog_8_method_22_code, 3, (Option.none : Option FieldType)),
  (⟨"SleptFor$Reader","wordHere","()I"⟩, prog_8_method_23_code, 3, (Option.some FieldType.int)),
  (⟨"SleptFor$Reader","isWord","(II)Z"⟩, prog_8_method_24_code, 6, (Option.some FieldType.boolean)),
  (⟨"SleptFor$Reader","numberHere","()I"⟩, prog_8_method_25_code, 2, (Option.some FieldType.int)),
  (⟨"SleptFor$Reader","signHere","(I)I"⟩, prog_8_method_26_code, 3, (Option.some FieldType.int)),
  (⟨"SleptFor","person","(II)I"⟩, prog_1_method_2_code, 5, (Option.some FieldType.int)),
  (⟨"SleptFor","work","(II)I"⟩, prog_1_method_3_code, 5, (Option.some FieldType.int)),
  (⟨"SleptFor","may","(II)Z"⟩, prog_1_method_4_code, 4, (Option.some FieldType.boolean)),
  (⟨"SleptFor","hears","(II)Z"⟩, prog_1_method_5_code, 4, (Option.some FieldType.boolean)),
  (⟨"SleptFor","wake","(II)Z"⟩, prog_1_method_6_code, 3, (Option.some FieldType.boolean)),
  (⟨"SleptFor","sleep","(II)Z"⟩, prog_1_method_7_code, 4, (Option.some FieldType.boolean)),
  (⟨"SleptFor","idle","(I)Z"⟩, prog_1_method_8_code, 2, (Option.some FieldType.boolean)),
  (⟨"SleptFor","call","(I)I"⟩, prog_1_method_9_code, 3, (Option.some FieldType.int)),
  (⟨"SleptFor","repay","(III)I"⟩, prog_1_method_10_code, 6, (Option.some FieldType.int)),
  (⟨"SleptFor","hour","(I)I"⟩, prog_1_method_11_code, 2, (Option.some FieldType.int)),
  (⟨"SleptFor","year","(II)I"⟩, prog_1_method_12_code, 6, (Option.some FieldType.int)),
  (⟨"SleptFor","feed","(IIIII)I"⟩, prog_1_method_13_code, 6, (Option.some FieldType.int)),
  (⟨"SleptFor","end","(I)I"⟩, prog_1_method_14_code, 2, (Option.some FieldType.int)),
  (⟨"SleptFor","text","()I"⟩, prog_1_method_15_code, 3, (Option.some FieldType.int)),
  (⟨"SleptFor","fault","(I)I"⟩, prog_1_method_16_code, 2, (Option.some FieldType.int)),
  (⟨"SleptFor","by","(I)Z"⟩, prog_1_method_17_code, 2, (Option.some FieldType.boolean)),
  (⟨"SleptFor","played","(I)I"⟩, prog_1_method_18_code, 4, (Option.some FieldType.int)),
  (⟨"SleptFor","undo","()I"⟩, prog_1_method_19_code, 1, (Option.some FieldType.int)),
  (⟨"SleptFor","of","(II)I"⟩, prog_1_method_20_code, 5, (Option.some FieldType.int)),
  (⟨"SleptFor","ofWork","(II)I"⟩, prog_1_method_21_code, 4, (Option.some FieldType.int)),
  (⟨"SleptFor","owes","(II)I"⟩, prog_1_method_22_code, 3, (Option.some FieldType.int)),
  (⟨"SleptFor","kept","(II)I"⟩, prog_1_method_23_code, 4, (Option.some FieldType.int)),
  (⟨"SleptFor","foretoldDone","(II)I"⟩, prog_1_method_24_code, 4, (Option.some FieldType.int)),
  (⟨"SleptFor","foretoldStop","(II)I"⟩, prog_1_method_25_code, 4, (Option.some FieldType.int)),
  (⟨"SleptFor","match","(IIIZI)I"⟩, prog_1_method_26_code, 7, (Option.some FieldType.int)),
  (⟨"SleptFor","whoCannot","(III)I"⟩, prog_1_method_27_code, 4, (Option.some FieldType.int)),
  (⟨"SleptFor","behind","(II)I"⟩, prog_1_method_28_code, 4, (Option.some FieldType.int)),
  (⟨"SleptFor","valley","(II)I"⟩, prog_1_method_29_code, 5, (Option.some FieldType.int)),
  (⟨"SleptFor","rota","(IIIII)I"⟩, prog_1_method_30_code, 7, (Option.some FieldType.int)),
  (⟨"SleptFor","chain","(I)I"⟩, prog_1_method_31_code, 2, (Option.some FieldType.int)),
  (⟨"SleptFor","guard","(II)I"⟩, prog_1_method_32_code, 3, (Option.some FieldType.int)),
  (⟨"SleptFor","enough","(IIIIZ)J"⟩, prog_1_method_33_code, 17, (Option.some FieldType.long)),
  (⟨"SleptFor","ring","(I)I"⟩, prog_1_method_34_code, 2, (Option.some FieldType.int)),
  (⟨"SleptFor","without","(I)I"⟩, prog_1_method_35_code, 2, (Option.some FieldType.int)),
  (⟨"SleptFor","strike","(I)I"⟩, prog_1_method_36_code, 2, (Option.some FieldType.int)),
  (⟨"SleptFor","fits","(I)I"⟩, prog_1_method_37_code, 2, (Option.some FieldType.int)),
  (⟨"SleptFor","forNobody","()I"⟩, prog_1_method_38_code, 1, (Option.some FieldType.int)),
  (⟨"SleptFor","image","()I"⟩, prog_1_method_39_code, 1, (Option.some FieldType.int)),
  (⟨"SleptFor","back","()I"⟩, prog_1_method_40_code, 1, (Option.some FieldType.int)),
  (⟨"SleptFor","about","(I)I"⟩, prog_1_method_41_code, 2, (Option.some FieldType.int)),
  (⟨"SleptFor","isDoing","(II)Z"⟩, prog_1_method_42_code, 3, (Option.some FieldType.boolean)),
  (⟨"SleptFor","canPair","(III)Z"⟩, prog_1_method_43_code, 5, (Option.some FieldType.boolean)),
  (⟨"SleptFor","passHours","(IZ)I"⟩, prog_1_method_44_code, 7, (Option.some FieldType.int)),
  (⟨"SleptFor","takeTurn","()I"⟩, prog_1_method_45_code, 6, (Option.some FieldType.int)),
  (⟨"SleptFor","perform","(LSleptFor$Text;I)Z"⟩, prog_1_method_46_code, 6, (Option.some FieldType.boolean)),
  (⟨"SleptFor","putBytes","(I)V"⟩, prog_1_method_47_code, 3, (Option.none : Option FieldType)),
  (⟨"SleptFor","lowestOf","(I)I"⟩, prog_1_method_48_code, 2, (Option.some FieldType.int)),
  (⟨"SleptFor","power","(JI)J"⟩, prog_1_method_49_code, 6, (Option.some FieldType.long)),
  (⟨"SleptFor","atLeast","(IIJJ)J"⟩, prog_1_method_50_code, 11, (Option.some FieldType.long)),
  (⟨"SleptFor","commonDivisor","(JJ)J"⟩, prog_1_method_51_code, 11, (Option.some FieldType.long)),
  (⟨"SleptForModel","in","(III)Z"⟩, prog_14_method_2_code, 3, (Option.some FieldType.boolean)),
  (⟨"SleptForModel","has","(II)Z"⟩, prog_14_method_3_code, 2, (Option.some FieldType.boolean)),
  (⟨"SleptForModel","many","(I)I"⟩, prog_14_method_4_code, 3, (Option.some FieldType.int)),
  (⟨"SleptForModel","copies","(Z)V"⟩, prog_14_method_5_code, 3, (Option.none : Option FieldType)),
  (⟨"SleptForModel","isPerson","(I)Z"⟩, prog_14_method_6_code, 2, (Option.some FieldType.boolean)),
  (⟨"SleptForModel","isWork","(I)Z"⟩, prog_14_method_7_code, 2, (Option.some FieldType.boolean)),
  (⟨"SleptForModel","isSet","(I)Z"⟩, prog_14_method_8_code, 2, (Option.some FieldType.boolean)),
  (⟨"SleptForModel","person","(II)I"⟩, prog_14_method_9_code, 5, (Option.some FieldType.int)),
  (⟨"SleptForModel","work","(II)I"⟩, prog_14_method_10_code, 4, (Option.some FieldType.int)),
  (⟨"SleptForModel","may","(II)Z"⟩, prog_14_method_11_code, 3, (Option.some FieldType.boolean)),
  (⟨"SleptForModel","hears","(II)Z"⟩, prog_14_method_12_code, 3, (Option.some FieldType.boolean)),
  (⟨"SleptForModel","keepsStep","()V"⟩, prog_14_method_13_code, 2, (Option.none : Option FieldType)),
  (⟨"SleptForModel","undo","()I"⟩, prog_14_method_14_code, 2, (Option.some FieldType.int)),
  (⟨"SleptForModel","put","(I)V"⟩, prog_14_method_15_code, 3, (Option.none : Option FieldType)),
  (⟨"SleptForModel","feed","(IIIII)I"⟩, prog_14_method_16_code, 6, (Option.some FieldType.int)),
  (⟨"SleptForModel","end","(I)I"⟩, prog_14_method_17_code, 2, (Option.some FieldType.int)),
  (⟨"SleptForModel","isLetter","(I)Z"⟩, prog_14_method_18_code, 1, (Option.some FieldType.boolean)),
  (⟨"SleptForModel","wordOf","(J)I"⟩, prog_14_method_19_code, 2, (Option.some FieldType.int)),
  (⟨"SleptForModel","next","()V"⟩, prog_14_method_20_code, 5, (Option.none : Option FieldType)),
  (⟨"SleptForModel","isSign","(I)Z"⟩, prog_14_method_21_code, 2, (Option.some FieldType.boolean)),
  (⟨"SleptForModel","isWord","(I)Z"⟩, prog_14_method_22_code, 2, (Option.some FieldType.boolean)),
  (⟨"SleptForModel","errs","(I)V"⟩, prog_14_method_23_code, 2, (Option.none : Option FieldType)),
  (⟨"SleptForModel","emits","(II)V"⟩, prog_14_method_24_code, 3, (Option.none : Option FieldType)),
  (⟨"SleptForModel","opensFrame","(I)V"⟩, prog_14_method_25_code, 2, (Option.none : Option FieldType)),
  (⟨"SleptForModel","top","()I"⟩, prog_14_method_26_code, 1, (Option.some FieldType.int)),
  (⟨"SleptForModel","opensSign","(I)Z"⟩, prog_14_method_27_code, 2, (Option.some FieldType.boolean)),
  (⟨"SleptForModel","rank","(I)I"⟩, prog_14_method_28_code, 1, (Option.some FieldType.int)),
  (⟨"SleptForModel","works","(I)V"⟩, prog_14_method_29_code, 2, (Option.none : Option FieldType)),
  (⟨"SleptForModel","waitsFor","(I)V"⟩, prog_14_method_30_code, 2, (Option.none : Option FieldType)),
  (⟨"SleptForModel","asks","()V"⟩, prog_14_method_31_code, 2, (Option.none : Option FieldType)),
  (⟨"SleptForModel","mayName","(II)Z"⟩, prog_14_method_32_code, 2, (Option.some FieldType.boolean)),
  (⟨"SleptForModel","nameNow","()I"⟩, prog_14_method_33_code, 1, (Option.some FieldType.int)),
  (⟨"SleptForModel","begins","()V"⟩, prog_14_method_34_code, 3, (Option.none : Option FieldType)),
  (⟨"SleptForModel","oneIsOver","()V"⟩, prog_14_method_35_code, 1, (Option.none : Option FieldType)),
  (⟨"SleptForModel","askIsOver","()V"⟩, prog_14_method_36_code, 1, (Option.none : Option FieldType)),
  (⟨"SleptForModel","isAsking","(I)Z"⟩, prog_14_method_37_code, 1, (Option.some FieldType.boolean)),
  (⟨"SleptForModel","turnsTo","(II)V"⟩, prog_14_method_38_code, 4, (Option.none : Option FieldType)),
  (⟨"SleptForModel","goesOn","()V"⟩, prog_14_method_39_code, 3, (Option.none : Option FieldType)),
  (⟨"SleptForModel","asksOn","()V"⟩, prog_14_method_40_code, 1, (Option.none : Option FieldType)),
  (⟨"SleptForModel","clauseIsOver","()V"⟩, prog_14_method_41_code, 1, (Option.none : Option FieldType)),
  (⟨"SleptForModel","number","(II)I"⟩, prog_14_method_42_code, 4, (Option.some FieldType.int)),
  (⟨"SleptForModel","wasTold","(I)Z"⟩, prog_14_method_43_code, 4, (Option.some FieldType.boolean)),
  (⟨"SleptForModel","numberBehind","(III)I"⟩, prog_14_method_44_code, 4, (Option.some FieldType.int)),
  (⟨"SleptForModel","doing","()V"⟩, prog_14_method_45_code, 4, (Option.none : Option FieldType)),
  (⟨"SleptForModel","clause","()V"⟩, prog_14_method_46_code, 1, (Option.none : Option FieldType)),
  (⟨"SleptForModel","text","()I"⟩, prog_14_method_47_code, 4, (Option.some FieldType.int)),
  (⟨"SleptForModel","fault","(I)I"⟩, prog_14_method_48_code, 2, (Option.some FieldType.int)),
  (⟨"SleptForModel","bound","(J)J"⟩, prog_14_method_49_code, 2, (Option.some FieldType.long)),
  (⟨"SleptForModel","worked","(IJJ)J"⟩, prog_14_method_50_code, 5, (Option.some FieldType.long)),
  (⟨"SleptForModel","saysOf","(I)J"⟩, prog_14_method_51_code, 5, (Option.some FieldType.long)),
  (⟨"SleptForModel","by","(I)Z"⟩, prog_14_method_52_code, 2, (Option.some FieldType.boolean)),
  (⟨"SleptForModel","ordersOf","(I)I"⟩, prog_14_method_53_code, 5, (Option.some FieldType.int)),
  (⟨"SleptForModel","held","(JII)I"⟩, prog_14_method_54_code, 4, (Option.some FieldType.int)),
  (⟨"SleptForModel","laysNow","()V"⟩, prog_14_method_55_code, 2, (Option.none : Option FieldType)),
  (⟨"SleptForModel","keepsNow","()V"⟩, prog_14_method_56_code, 2, (Option.none : Option FieldType)),
  (⟨"SleptForModel","names","(II)V"⟩, prog_14_method_57_code, 3, (Option.none : Option FieldType)),
  (⟨"SleptForModel","worthBy","(IIII)I"⟩, prog_14_method_58_code, 6, (Option.some FieldType.int)),
  (⟨"SleptForModel","burnBy","(III)I"⟩, prog_14_method_59_code, 5, (Option.some FieldType.int)),
  (⟨"SleptForModel","soundOf","(I)I"⟩, prog_14_method_60_code, 3, (Option.some FieldType.int)),
  (⟨"SleptForModel","priceOf","(II)I"⟩, prog_14_method_61_code, 4, (Option.some FieldType.int)),
  (⟨"SleptForModel","fuelOf","(IIZ)I"⟩, prog_14_method_62_code, 6, (Option.some FieldType.int)),
  (⟨"SleptForModel","allThat","(I)I"⟩, prog_14_method_63_code, 4, (Option.some FieldType.int)),
  (⟨"SleptForModel","drawn","(I)I"⟩, prog_14_method_64_code, 3, (Option.some FieldType.int)),
  (⟨"SleptForModel","runs","(I)V"⟩, prog_14_method_65_code, 4, (Option.none : Option FieldType)),
  (⟨"SleptForModel","wakesOn","(II)I"⟩, prog_14_method_66_code, 8, (Option.some FieldType.int)),
  (⟨"SleptForModel","wokenByNoise","()I"⟩, prog_14_method_67_code, 4, (Option.some FieldType.int)),
  (⟨"SleptForModel","idles","(I)V"⟩, prog_14_method_68_code, 3, (Option.none : Option FieldType)),
  (⟨"SleptForModel","hourGoes","()I"⟩, prog_14_method_69_code, 2, (Option.some FieldType.int)),
  (⟨"SleptForModel","keepsHour","()V"⟩, prog_14_method_70_code, 2, (Option.none : Option FieldType)),
  (⟨"SleptForModel","hourDone","()I"⟩, prog_14_method_71_code, 2, (Option.some FieldType.int)),
  (⟨"SleptForModel","hour","(I)I"⟩, prog_14_method_72_code, 4, (Option.some FieldType.int)),
  (⟨"SleptForModel","isAt","(II)Z"⟩, prog_14_method_73_code, 3, (Option.some FieldType.boolean)),
  (⟨"SleptForModel","beginsTo","(III)V"⟩, prog_14_method_74_code, 4, (Option.none : Option FieldType)),
  (⟨"SleptForModel","wake","(II)Z"⟩, prog_14_method_75_code, 3, (Option.some FieldType.boolean)),
  (⟨"SleptForModel","sleep","(II)Z"⟩, prog_14_method_76_code, 3, (Option.some FieldType.boolean)),
  (⟨"SleptForModel","idle","(I)Z"⟩, prog_14_method_77_code, 2, (Option.some FieldType.boolean)),
  (⟨"SleptForModel","calls","(I)I"⟩, prog_14_method_78_code, 3, (Option.some FieldType.int)),
  (⟨"SleptForModel","call","(I)I"⟩, prog_14_method_79_code, 2, (Option.some FieldType.int)),
  (⟨"SleptForModel","repay","(III)I"⟩, prog_14_method_80_code, 4, (Option.some FieldType.int)),
  (⟨"SleptForModel","draw","(I)I"⟩, prog_14_method_81_code, 3, (Option.some FieldType.int)),
  (⟨"SleptForModel","lowestFor","(I)I"⟩, prog_14_method_82_code, 4, (Option.some FieldType.int)),
  (⟨"SleptForModel","happens","()I"⟩, prog_14_method_83_code, 4, (Option.some FieldType.int)),
  (⟨"SleptForModel","year","(II)I"⟩, prog_14_method_84_code, 5, (Option.some FieldType.int)),
  (⟨"SleptForModel","hours","(I)Z"⟩, prog_14_method_85_code, 3, (Option.some FieldType.boolean)),
  (⟨"SleptForModel","played","(I)I"⟩, prog_14_method_86_code, 5, (Option.some FieldType.int)),
  (⟨"SleptForModel","of","(II)I"⟩, prog_14_method_87_code, 4, (Option.some FieldType.int)),
  (⟨"SleptForModel","ofWork","(II)I"⟩, prog_14_method_88_code, 3, (Option.some FieldType.int)),
  (⟨"SleptForModel","owes","(II)I"⟩, prog_14_method_89_code, 3, (Option.some FieldType.int)),
  (⟨"SleptForModel","isKept","(I)Z"⟩, prog_14_method_90_code, 2, (Option.some FieldType.boolean)),
  (⟨"SleptForModel","kept","(II)I"⟩, prog_14_method_91_code, 3, (Option.some FieldType.int)),
  (⟨"SleptForModel","foretoldDone","(II)I"⟩, prog_14_method_92_code, 5, (Option.some FieldType.int)),
  (⟨"SleptForModel","foretoldStop","(II)I"⟩, prog_14_method_93_code, 5, (Option.some FieldType.int)),
  (⟨"SleptForModel","laysMatch","(III)Z"⟩, prog_14_method_94_code, 7, (Option.some FieldType.boolean)),
  (⟨"SleptForModel","laysWay","(I)Z"⟩, prog_14_method_95_code, 5, (Option.some FieldType.boolean)),
  (⟨"SleptForModel","isEnough","()Z"⟩, prog_14_method_96_code, 4, (Option.some FieldType.boolean)),
  (⟨"SleptForModel","priceNow","()I"⟩, prog_14_method_97_code, 3, (Option.some FieldType.int)),
  (⟨"SleptForModel","sleepNow","()I"⟩, prog_14_method_98_code, 3, (Option.some FieldType.int)),
  (⟨"SleptForModel","match","(IIIZI)I"⟩, prog_14_method_99_code, 13, (Option.some FieldType.int)),
  (⟨"SleptForModel","cannot","(I)Z"⟩, prog_14_method_100_code, 6, (Option.some FieldType.boolean)),
  (⟨"SleptForModel","whoCannot","(III)I"⟩, prog_14_method_101_code, 7, (Option.some FieldType.int)),
  (⟨"SleptForModel","behind","(II)I"⟩, prog_14_method_102_code, 8, (Option.some FieldType.int)),
  (⟨"SleptForModel","valley","(II)I"⟩, prog_14_method_103_code, 5, (Option.some FieldType.int)),
  (⟨"SleptForModel","onEnd","(I)I"⟩, prog_14_method_104_code, 3, (Option.some FieldType.int)),
  (⟨"SleptForModel","mayShift","(III)Z"⟩, prog_14_method_105_code, 6, (Option.some FieldType.boolean)),
  (⟨"SleptForModel","changesTo","(I)I"⟩, prog_14_method_106_code, 4, (Option.some FieldType.int)),
  (⟨"SleptForModel","staysWithin","(IIII)Z"⟩, prog_14_method_107_code, 7, (Option.some FieldType.boolean)),
  (⟨"SleptForModel","rotaWithin","(IIIII)Z"⟩, prog_14_method_108_code, 7, (Option.some FieldType.boolean)),
  (⟨"SleptForModel","rota","(IIIII)I"⟩, prog_14_method_109_code, 8, (Option.some FieldType.int)),
  (⟨"SleptForModel","chain","(I)I"⟩, prog_14_method_110_code, 2, (Option.some FieldType.int)),
  (⟨"SleptForModel","guard","(II)I"⟩, prog_14_method_111_code, 6, (Option.some FieldType.int)),
  (⟨"SleptForModel","power","(JI)J"⟩, prog_14_method_112_code, 6, (Option.some FieldType.long)),
  (⟨"SleptForModel","common","(JJ)J"⟩, prog_14_method_113_code, 10, (Option.some FieldType.long)),
  (⟨"SleptForModel","choices","(II)J"⟩, prog_14_method_114_code, 5, (Option.some FieldType.long)),
  (⟨"SleptForModel","enough","(IIIIZ)J"⟩, prog_14_method_115_code, 16, (Option.some FieldType.long)),
  (⟨"SleptForModel","isInRound","(II)Z"⟩, prog_14_method_116_code, 4, (Option.some FieldType.boolean)),
  (⟨"SleptForModel","isRing","(II)Z"⟩, prog_14_method_117_code, 4, (Option.some FieldType.boolean)),
  (⟨"SleptForModel","laysRing","()I"⟩, prog_14_method_118_code, 3, (Option.some FieldType.int)),
  (⟨"SleptForModel","ring","(I)I"⟩, prog_14_method_119_code, 6, (Option.some FieldType.int)),
  (⟨"SleptForModel","stopsWithout","(I)I"⟩, prog_14_method_120_code, 4, (Option.some FieldType.int)),
  (⟨"SleptForModel","without","(I)I"⟩, prog_14_method_121_code, 2, (Option.some FieldType.int)),
  (⟨"SleptForModel","strike","(I)I"⟩, prog_14_method_122_code, 5, (Option.some FieldType.int)),
  (⟨"SleptForModel","fits","(I)I"⟩, prog_14_method_123_code, 6, (Option.some FieldType.int)),
  (⟨"SleptForModel","forNobody","()I"⟩, prog_14_method_124_code, 3, (Option.some FieldType.int)),
  (⟨"SleptForModel","image","()I"⟩, prog_14_method_125_code, 1, (Option.some FieldType.int)),
  (⟨"SleptForModel","back","()I"⟩, prog_14_method_126_code, 1, (Option.some FieldType.int)),
  (⟨"SleptForModel","about","(I)I"⟩, prog_14_method_127_code, 2, (Option.some FieldType.int))]
noncomputable def mt0 : Nat → gx_M := fun i => match gx_nth qqL i with | some q => q | none => (⟨"", "", ""⟩, .empty, 0, none)
noncomputable def nm0 : Nat → String := fun c => match gx_nth [cn_0, cn_1, cn_2, cn_3, cn_4, cn_5, cn_6, cn_7, cn_8, cn_9, cn_10, cn_11, cn_12, "java/lang/Integer"] c with | some s => s | none => ""
theorem mt_0 : mt0 0 = (⟨"java/lang/Integer","bitCount","(I)I"⟩, prog_15_method_49_code, 1, (Option.some FieldType.int)) := rfl
theorem mt_1 : mt0 1 = (⟨"SleptFor$Folk","isPerson","(I)Z"⟩, prog_3_method_2_code, 2, (Option.some FieldType.boolean)) := rfl
theorem mt_2 : mt0 2 = (⟨"SleptFor$Folk","isWork","(I)Z"⟩, prog_3_method_3_code, 2, (Option.some FieldType.boolean)) := rfl
theorem mt_3 : mt0 3 = (⟨"SleptFor$Folk","areUnlike","(II)Z"⟩, prog_3_method_4_code, 3, (Option.some FieldType.boolean)) := rfl
theorem mt_4 : mt0 4 = (⟨"SleptFor$Folk","everyone","()I"⟩, prog_3_method_5_code, 1, (Option.some FieldType.int)) := rfl
theorem mt_5 : mt0 5 = (⟨"SleptFor$Folk","isGroup","(III)Z"⟩, prog_3_method_6_code, 5, (Option.some FieldType.boolean)) := rfl
theorem mt_6 : mt0 6 = (⟨"SleptFor$Folk","copy","(LSleptFor$Folk;)V"⟩, prog_3_method_7_code, 2, (Option.none : Option FieldType)) := rfl
theorem mt_7 : mt0 7 = (⟨"SleptFor$Night","those","(I)I"⟩, prog_5_method_2_code, 4, (Option.some FieldType.int)) := rfl
theorem mt_8 : mt0 8 = (⟨"SleptFor$Night","sleepsFor","(II)Z"⟩, prog_5_method_3_code, 3, (Option.some FieldType.boolean)) := rfl
theorem mt_9 : mt0 9 = (⟨"SleptFor$Night","begin","(III)V"⟩, prog_5_method_4_code, 4, (Option.none : Option FieldType)) := rfl
theorem mt_10 : mt0 10 = (⟨"SleptFor$Night","makeIdle","(I)V"⟩, prog_5_method_5_code, 3, (Option.none : Option FieldType)) := rfl
theorem mt_11 : mt0 11 = (⟨"SleptFor$Night","draw","(I)I"⟩, prog_5_method_6_code, 3, (Option.some FieldType.int)) := rfl
theorem mt_12 : mt0 12 = (⟨"SleptFor$Night","save","([II)V"⟩, prog_5_method_7_code, 3, (Option.none : Option FieldType)) := rfl
theorem mt_13 : mt0 13 = (⟨"SleptFor$Night","load","([II)V"⟩, prog_5_method_8_code, 3, (Option.none : Option FieldType)) := rfl
theorem mt_14 : mt0 14 = (⟨"SleptFor$Night","copy","(LSleptFor$Night;)V"⟩, prog_5_method_9_code, 2, (Option.none : Option FieldType)) := rfl
theorem mt_15 : mt0 15 = (⟨"SleptFor$Text","clear","()V"⟩, prog_11_method_2_code, 2, (Option.none : Option FieldType)) := rfl
theorem mt_16 : mt0 16 = (⟨"SleptFor$Text","put","(I)V"⟩, prog_11_method_3_code, 2, (Option.none : Option FieldType)) := rfl
theorem mt_17 : mt0 17 = (⟨"SleptFor$Text","goOnHere","(I)V"⟩, prog_11_method_4_code, 2, (Option.none : Option FieldType)) := rfl
theorem mt_18 : mt0 18 = (⟨"SleptFor$Text","copy","(LSleptFor$Text;)V"⟩, prog_11_method_5_code, 2, (Option.none : Option FieldType)) := rfl
theorem mt_19 : mt0 19 = (⟨"SleptFor$Steps","push","(LSleptFor$Night;)V"⟩, prog_10_method_2_code, 2, (Option.none : Option FieldType)) := rfl
theorem mt_20 : mt0 20 = (⟨"SleptFor$Steps","pop","(LSleptFor$Night;)Z"⟩, prog_10_method_3_code, 2, (Option.some FieldType.boolean)) := rfl
theorem mt_21 : mt0 21 = (⟨"SleptFor$Steps","copy","(LSleptFor$Steps;)V"⟩, prog_10_method_4_code, 2, (Option.none : Option FieldType)) := rfl
theorem mt_22 : mt0 22 = (⟨"SleptFor$Valley","firstKept","()I"⟩, prog_12_method_2_code, 1, (Option.some FieldType.int)) := rfl
theorem mt_23 : mt0 23 = (⟨"SleptFor$Valley","copy","(LSleptFor$Valley;)V"⟩, prog_12_method_3_code, 2, (Option.none : Option FieldType)) := rfl
theorem mt_24 : mt0 24 = (⟨"SleptFor$Laws","worthOf","(IIIII)I"⟩, prog_4_method_2_code, 6, (Option.some FieldType.int)) := rfl
theorem mt_25 : mt0 25 = (⟨"SleptFor$Laws","burnOf","(IIII)I"⟩, prog_4_method_3_code, 5, (Option.some FieldType.int)) := rfl
theorem mt_26 : mt0 26 = (⟨"SleptFor$Laws","soundOf","(III)I"⟩, prog_4_method_4_code, 4, (Option.some FieldType.int)) := rfl
theorem mt_27 : mt0 27 = (⟨"SleptFor$Laws","priceOf","(III)I"⟩, prog_4_method_5_code, 4, (Option.some FieldType.int)) := rfl
theorem mt_28 : mt0 28 = (⟨"SleptFor$Laws","worthNow","(LSleptFor$Night;II)I"⟩, prog_4_method_6_code, 4, (Option.some FieldType.int)) := rfl
theorem mt_29 : mt0 29 = (⟨"SleptFor$Laws","burnNow","(LSleptFor$Night;I)I"⟩, prog_4_method_7_code, 3, (Option.some FieldType.int)) := rfl
theorem mt_30 : mt0 30 = (⟨"SleptFor$Laws","fuelNow","(LSleptFor$Night;I)I"⟩, prog_4_method_8_code, 5, (Option.some FieldType.int)) := rfl
theorem mt_31 : mt0 31 = (⟨"SleptFor$Laws","isLaw","(I)Z"⟩, prog_4_method_9_code, 3, (Option.some FieldType.boolean)) := rfl
theorem mt_32 : mt0 32 = (⟨"SleptFor$Laws","valueOf","(II)I"⟩, prog_4_method_10_code, 9, (Option.some FieldType.int)) := rfl
theorem mt_33 : mt0 33 = (⟨"SleptFor$Laws","joined","(III)I"⟩, prog_4_method_11_code, 5, (Option.some FieldType.int)) := rfl
theorem mt_34 : mt0 34 = (⟨"SleptFor$Clock","pass","(LSleptFor$Night;)V"⟩, prog_2_method_2_code, 3, (Option.none : Option FieldType)) := rfl
theorem mt_35 : mt0 35 = (⟨"SleptFor$Clock","goForward","(LSleptFor$Night;I)V"⟩, prog_2_method_3_code, 6, (Option.none : Option FieldType)) := rfl
theorem mt_36 : mt0 36 = (⟨"SleptFor$Clock","wokenByNoise","(LSleptFor$Night;)I"⟩, prog_2_method_4_code, 4, (Option.some FieldType.int)) := rfl
theorem mt_37 : mt0 37 = (⟨"SleptFor$Clock","isNoiseAbove","(LSleptFor$Night;II)Z"⟩, prog_2_method_5_code, 6, (Option.some FieldType.boolean)) := rfl
theorem mt_38 : mt0 38 = (⟨"SleptFor$Clock","listen","(LSleptFor$Night;)V"⟩, prog_2_method_6_code, 4, (Option.none : Option FieldType)) := rfl
theorem mt_39 : mt0 39 = (⟨"SleptFor$Clock","spread","(II)I"⟩, prog_2_method_7_code, 7, (Option.some FieldType.int)) := rfl
theorem mt_40 : mt0 40 = (⟨"SleptFor$Clock","wokenBy","(LSleptFor$Night;I)I"⟩, prog_2_method_8_code, 3, (Option.some FieldType.int)) := rfl
theorem mt_41 : mt0 41 = (⟨"SleptFor$Pairing","list","(I[I)I"⟩, prog_6_method_2_code, 4, (Option.some FieldType.int)) := rfl
theorem mt_42 : mt0 42 = (⟨"SleptFor$Pairing","prepare","(IIIZ)V"⟩, prog_6_method_3_code, 7, (Option.none : Option FieldType)) := rfl
theorem mt_43 : mt0 43 = (⟨"SleptFor$Pairing","weigh","(IIZ)V"⟩, prog_6_method_4_code, 8, (Option.none : Option FieldType)) := rfl
theorem mt_44 : mt0 44 = (⟨"SleptFor$Pairing","solve","()Z"⟩, prog_6_method_5_code, 2, (Option.some FieldType.boolean)) := rfl
theorem mt_45 : mt0 45 = (⟨"SleptFor$Pairing","search","(III)V"⟩, prog_6_method_6_code, 6, (Option.none : Option FieldType)) := rfl
theorem mt_46 : mt0 46 = (⟨"SleptFor$Pairing","isWorthwhile","(III)Z"⟩, prog_6_method_7_code, 7, (Option.some FieldType.boolean)) := rfl
theorem mt_47 : mt0 47 = (⟨"SleptFor$Pairing","whomFor","(I)I"⟩, prog_6_method_8_code, 3, (Option.some FieldType.int)) := rfl
theorem mt_48 : mt0 48 = (⟨"SleptFor$Pairing","lowestShort","()I"⟩, prog_6_method_9_code, 2, (Option.some FieldType.int)) := rfl
theorem mt_49 : mt0 49 = (⟨"SleptFor$Pairing","burnOfGroup","(I)I"⟩, prog_6_method_10_code, 4, (Option.some FieldType.int)) := rfl
theorem mt_50 : mt0 50 = (⟨"SleptFor$Pairing","worthForGroup","(I)I"⟩, prog_6_method_11_code, 6, (Option.some FieldType.int)) := rfl
theorem mt_51 : mt0 51 = (⟨"SleptFor$Pairing","peopleOf","(I)I"⟩, prog_6_method_12_code, 4, (Option.some FieldType.int)) := rfl
theorem mt_52 : mt0 52 = (⟨"SleptFor$Rota","prepare","(IIII)V"⟩, prog_9_method_2_code, 6, (Option.none : Option FieldType)) := rfl
theorem mt_53 : mt0 53 = (⟨"SleptFor$Rota","solve","()Z"⟩, prog_9_method_3_code, 2, (Option.some FieldType.boolean)) := rfl
theorem mt_54 : mt0 54 = (⟨"SleptFor$Rota","place","(IIII)V"⟩, prog_9_method_4_code, 7, (Option.none : Option FieldType)) := rfl
theorem mt_55 : mt0 55 = (⟨"SleptFor$Rota","changesToCome","(II)I"⟩, prog_9_method_5_code, 4, (Option.some FieldType.int)) := rfl
theorem mt_56 : mt0 56 = (⟨"SleptFor$Rota","whoIn","(I)I"⟩, prog_9_method_6_code, 2, (Option.some FieldType.int)) := rfl
theorem mt_57 : mt0 57 = (⟨"SleptFor$Questions","tierBehind","(II)I"⟩, prog_7_method_2_code, 8, (Option.some FieldType.int)) := rfl
theorem mt_58 : mt0 58 = (⟨"SleptFor$Questions","leastGuard","(II)I"⟩, prog_7_method_3_code, 9, (Option.some FieldType.int)) := rfl
theorem mt_59 : mt0 59 = (⟨"SleptFor$Questions","ofRing","(I)I"⟩, prog_7_method_4_code, 6, (Option.some FieldType.int)) := rfl
theorem mt_60 : mt0 60 = (⟨"SleptFor$Questions","listDebts","()V"⟩, prog_7_method_5_code, 3, (Option.none : Option FieldType)) := rfl
theorem mt_61 : mt0 61 = (⟨"SleptFor$Questions","ringFrom","(I)I"⟩, prog_7_method_6_code, 6, (Option.some FieldType.int)) := rfl
theorem mt_62 : mt0 62 = (⟨"SleptFor$Questions","alongRing","(III)I"⟩, prog_7_method_7_code, 8, (Option.some FieldType.int)) := rfl
theorem mt_63 : mt0 63 = (⟨"SleptFor$Questions","nextInRing","(II)I"⟩, prog_7_method_8_code, 4, (Option.some FieldType.int)) := rfl
theorem mt_64 : mt0 64 = (⟨"SleptFor$Questions","weighDreamless","()V"⟩, prog_7_method_9_code, 2, (Option.none : Option FieldType)) := rfl
theorem mt_65 : mt0 65 = (⟨"SleptFor$Questions","fuelWithout","(II)I"⟩, prog_7_method_10_code, 5, (Option.some FieldType.int)) := rfl
theorem mt_66 : mt0 66 = (⟨"SleptFor$Questions","stoppedWithout","(I)I"⟩, prog_7_method_11_code, 5, (Option.some FieldType.int)) := rfl
theorem mt_67 : mt0 67 = (⟨"SleptFor$Questions","leastStrike","(I)I"⟩, prog_7_method_12_code, 7, (Option.some FieldType.int)) := rfl
theorem mt_68 : mt0 68 = (⟨"SleptFor$Questions","fitting","(I)I"⟩, prog_7_method_13_code, 8, (Option.some FieldType.int)) := rfl
theorem mt_69 : mt0 69 = (⟨"SleptFor$Questions","asleepForNobody","()I"⟩, prog_7_method_14_code, 5, (Option.some FieldType.int)) := rfl
theorem mt_70 : mt0 70 = (⟨"SleptFor$Reader","read","(I)Z"⟩, prog_8_method_2_code, 3, (Option.some FieldType.boolean)) := rfl
theorem mt_71 : mt0 71 = (⟨"SleptFor$Reader","advance","()V"⟩, prog_8_method_3_code, 1, (Option.none : Option FieldType)) := rfl
theorem mt_72 : mt0 72 = (⟨"SleptFor$Reader","refuse","(I)Z"⟩, prog_8_method_4_code, 2, (Option.some FieldType.boolean)) := rfl
theorem mt_73 : mt0 73 = (⟨"SleptFor$Reader","take","(I)Z"⟩, prog_8_method_5_code, 2, (Option.some FieldType.boolean)) := rfl
theorem mt_74 : mt0 74 = (⟨"SleptFor$Reader","clause","()Z"⟩, prog_8_method_6_code, 4, (Option.some FieldType.boolean)) := rfl
theorem mt_75 : mt0 75 = (⟨"SleptFor$Reader","lawOf","(I)Z"⟩, prog_8_method_7_code, 3, (Option.some FieldType.boolean)) := rfl
theorem mt_76 : mt0 76 = (⟨"SleptFor$Reader","deed","(II)Z"⟩, prog_8_method_8_code, 3, (Option.some FieldType.boolean)) := rfl
theorem mt_77 : mt0 77 = (⟨"SleptFor$Reader","numberOf","([IIII)Z"⟩, prog_8_method_9_code, 5, (Option.some FieldType.boolean)) := rfl
theorem mt_78 : mt0 78 = (⟨"SleptFor$Reader","sum","(I)Z"⟩, prog_8_method_10_code, 5, (Option.some FieldType.boolean)) := rfl
theorem mt_79 : mt0 79 = (⟨"SleptFor$Reader","product","(I)Z"⟩, prog_8_method_11_code, 5, (Option.some FieldType.boolean)) := rfl
theorem mt_80 : mt0 80 = (⟨"SleptFor$Reader","one","(I)Z"⟩, prog_8_method_12_code, 4, (Option.some FieldType.boolean)) := rfl
theorem mt_81 : mt0 81 = (⟨"SleptFor$Reader","plainNumber","()Z"⟩, prog_8_method_13_code, 1, (Option.some FieldType.boolean)) := rfl
theorem mt_82 : mt0 82 = (⟨"SleptFor$Reader","name","()Z"⟩, prog_8_method_14_code, 1, (Option.some FieldType.boolean)) := rfl
theorem mt_83 : mt0 83 = (⟨"SleptFor$Reader","choice","(I)Z"⟩, prog_8_method_15_code, 4, (Option.some FieldType.boolean)) := rfl
theorem mt_84 : mt0 84 = (⟨"SleptFor$Reader","either","(I)Z"⟩, prog_8_method_16_code, 4, (Option.some FieldType.boolean)) := rfl
theorem mt_85 : mt0 85 = (⟨"SleptFor$Reader","both","(I)Z"⟩, prog_8_method_17_code, 4, (Option.some FieldType.boolean)) := rfl
theorem mt_86 : mt0 86 = (⟨"SleptFor$Reader","ask","(I)Z"⟩, prog_8_method_18_code, 4, (Option.some FieldType.boolean)) := rfl
theorem mt_87 : mt0 87 = (⟨"SleptFor$Reader","byteAt","(I)I"⟩, prog_8_method_19_code, 2, (Option.some FieldType.int)) := rfl
theorem mt_88 : mt0 88 = (⟨"SleptFor$Reader","isLetter","(I)Z"⟩, prog_8_method_20_code, 1, (Option.some FieldType.boolean)) := rfl
theorem mt_89 : mt0 89 = (⟨"SleptFor$Reader","isDigit","(I)Z"⟩, prog_8_method_21_code, 1, (Option.some FieldType.boolean)) := rfl
theorem mt_90 : mt0 90 = (⟨"SleptFor$Reader","split","()V"⟩, prog_8_method_22_code, 3, (Option.none : Option FieldType)) := rfl
theorem mt_91 : mt0 91 = (⟨"SleptFor$Reader","wordHere","()I"⟩, prog_8_method_23_code, 3, (Option.some FieldType.int)) := rfl
theorem mt_92 : mt0 92 = (⟨"SleptFor$Reader","isWord","(II)Z"⟩, prog_8_method_24_code, 6, (Option.some FieldType.boolean)) := rfl
theorem mt_93 : mt0 93 = (⟨"SleptFor$Reader","numberHere","()I"⟩, prog_8_method_25_code, 2, (Option.some FieldType.int)) := rfl
theorem mt_94 : mt0 94 = (⟨"SleptFor$Reader","signHere","(I)I"⟩, prog_8_method_26_code, 3, (Option.some FieldType.int)) := rfl
theorem mt_95 : mt0 95 = (⟨"SleptFor","person","(II)I"⟩, prog_1_method_2_code, 5, (Option.some FieldType.int)) := rfl
theorem mt_96 : mt0 96 = (⟨"SleptFor","work","(II)I"⟩, prog_1_method_3_code, 5, (Option.some FieldType.int)) := rfl
theorem mt_97 : mt0 97 = (⟨"SleptFor","may","(II)Z"⟩, prog_1_method_4_code, 4, (Option.some FieldType.boolean)) := rfl
theorem mt_98 : mt0 98 = (⟨"SleptFor","hears","(II)Z"⟩, prog_1_method_5_code, 4, (Option.some FieldType.boolean)) := rfl
theorem mt_99 : mt0 99 = (⟨"SleptFor","wake","(II)Z"⟩, prog_1_method_6_code, 3, (Option.some FieldType.boolean)) := rfl
theorem mt_100 : mt0 100 = (⟨"SleptFor","sleep","(II)Z"⟩, prog_1_method_7_code, 4, (Option.some FieldType.boolean)) := rfl
theorem mt_101 : mt0 101 = (⟨"SleptFor","idle","(I)Z"⟩, prog_1_method_8_code, 2, (Option.some FieldType.boolean)) := rfl
theorem mt_102 : mt0 102 = (⟨"SleptFor","call","(I)I"⟩, prog_1_method_9_code, 3, (Option.some FieldType.int)) := rfl
theorem mt_103 : mt0 103 = (⟨"SleptFor","repay","(III)I"⟩, prog_1_method_10_code, 6, (Option.some FieldType.int)) := rfl
theorem mt_104 : mt0 104 = (⟨"SleptFor","hour","(I)I"⟩, prog_1_method_11_code, 2, (Option.some FieldType.int)) := rfl
theorem mt_105 : mt0 105 = (⟨"SleptFor","year","(II)I"⟩, prog_1_method_12_code, 6, (Option.some FieldType.int)) := rfl
theorem mt_106 : mt0 106 = (⟨"SleptFor","feed","(IIIII)I"⟩, prog_1_method_13_code, 6, (Option.some FieldType.int)) := rfl
theorem mt_107 : mt0 107 = (⟨"SleptFor","end","(I)I"⟩, prog_1_method_14_code, 2, (Option.some FieldType.int)) := rfl
theorem mt_108 : mt0 108 = (⟨"SleptFor","text","()I"⟩, prog_1_method_15_code, 3, (Option.some FieldType.int)) := rfl
theorem mt_109 : mt0 109 = (⟨"SleptFor","fault","(I)I"⟩, prog_1_method_16_code, 2, (Option.some FieldType.int)) := rfl
theorem mt_110 : mt0 110 = (⟨"SleptFor","by","(I)Z"⟩, prog_1_method_17_code, 2, (Option.some FieldType.boolean)) := rfl
theorem mt_111 : mt0 111 = (⟨"SleptFor","played","(I)I"⟩, prog_1_method_18_code, 4, (Option.some FieldType.int)) := rfl
theorem mt_112 : mt0 112 = (⟨"SleptFor","undo","()I"⟩, prog_1_method_19_code, 1, (Option.some FieldType.int)) := rfl
theorem mt_113 : mt0 113 = (⟨"SleptFor","of","(II)I"⟩, prog_1_method_20_code, 5, (Option.some FieldType.int)) := rfl
theorem mt_114 : mt0 114 = (⟨"SleptFor","ofWork","(II)I"⟩, prog_1_method_21_code, 4, (Option.some FieldType.int)) := rfl
theorem mt_115 : mt0 115 = (⟨"SleptFor","owes","(II)I"⟩, prog_1_method_22_code, 3, (Option.some FieldType.int)) := rfl
theorem mt_116 : mt0 116 = (⟨"SleptFor","kept","(II)I"⟩, prog_1_method_23_code, 4, (Option.some FieldType.int)) := rfl
theorem mt_117 : mt0 117 = (⟨"SleptFor","foretoldDone","(II)I"⟩, prog_1_method_24_code, 4, (Option.some FieldType.int)) := rfl
theorem mt_118 : mt0 118 = (⟨"SleptFor","foretoldStop","(II)I"⟩, prog_1_method_25_code, 4, (Option.some FieldType.int)) := rfl
theorem mt_119 : mt0 119 = (⟨"SleptFor","match","(IIIZI)I"⟩, prog_1_method_26_code, 7, (Option.some FieldType.int)) := rfl
theorem mt_120 : mt0 120 = (⟨"SleptFor","whoCannot","(III)I"⟩, prog_1_method_27_code, 4, (Option.some FieldType.int)) := rfl
theorem mt_121 : mt0 121 = (⟨"SleptFor","behind","(II)I"⟩, prog_1_method_28_code, 4, (Option.some FieldType.int)) := rfl
theorem mt_122 : mt0 122 = (⟨"SleptFor","valley","(II)I"⟩, prog_1_method_29_code, 5, (Option.some FieldType.int)) := rfl
theorem mt_123 : mt0 123 = (⟨"SleptFor","rota","(IIIII)I"⟩, prog_1_method_30_code, 7, (Option.some FieldType.int)) := rfl
theorem mt_124 : mt0 124 = (⟨"SleptFor","chain","(I)I"⟩, prog_1_method_31_code, 2, (Option.some FieldType.int)) := rfl
theorem mt_125 : mt0 125 = (⟨"SleptFor","guard","(II)I"⟩, prog_1_method_32_code, 3, (Option.some FieldType.int)) := rfl
theorem mt_126 : mt0 126 = (⟨"SleptFor","enough","(IIIIZ)J"⟩, prog_1_method_33_code, 17, (Option.some FieldType.long)) := rfl
theorem mt_127 : mt0 127 = (⟨"SleptFor","ring","(I)I"⟩, prog_1_method_34_code, 2, (Option.some FieldType.int)) := rfl
theorem mt_128 : mt0 128 = (⟨"SleptFor","without","(I)I"⟩, prog_1_method_35_code, 2, (Option.some FieldType.int)) := rfl
theorem mt_129 : mt0 129 = (⟨"SleptFor","strike","(I)I"⟩, prog_1_method_36_code, 2, (Option.some FieldType.int)) := rfl
theorem mt_130 : mt0 130 = (⟨"SleptFor","fits","(I)I"⟩, prog_1_method_37_code, 2, (Option.some FieldType.int)) := rfl
theorem mt_131 : mt0 131 = (⟨"SleptFor","forNobody","()I"⟩, prog_1_method_38_code, 1, (Option.some FieldType.int)) := rfl
theorem mt_132 : mt0 132 = (⟨"SleptFor","image","()I"⟩, prog_1_method_39_code, 1, (Option.some FieldType.int)) := rfl
theorem mt_133 : mt0 133 = (⟨"SleptFor","back","()I"⟩, prog_1_method_40_code, 1, (Option.some FieldType.int)) := rfl
theorem mt_134 : mt0 134 = (⟨"SleptFor","about","(I)I"⟩, prog_1_method_41_code, 2, (Option.some FieldType.int)) := rfl
theorem mt_135 : mt0 135 = (⟨"SleptFor","isDoing","(II)Z"⟩, prog_1_method_42_code, 3, (Option.some FieldType.boolean)) := rfl
theorem mt_136 : mt0 136 = (⟨"SleptFor","canPair","(III)Z"⟩, prog_1_method_43_code, 5, (Option.some FieldType.boolean)) := rfl
theorem mt_137 : mt0 137 = (⟨"SleptFor","passHours","(IZ)I"⟩, prog_1_method_44_code, 7, (Option.some FieldType.int)) := rfl
theorem mt_138 : mt0 138 = (⟨"SleptFor","takeTurn","()I"⟩, prog_1_method_45_code, 6, (Option.some FieldType.int)) := rfl
theorem mt_139 : mt0 139 = (⟨"SleptFor","perform","(LSleptFor$Text;I)Z"⟩, prog_1_method_46_code, 6, (Option.some FieldType.boolean)) := rfl
theorem mt_140 : mt0 140 = (⟨"SleptFor","putBytes","(I)V"⟩, prog_1_method_47_code, 3, (Option.none : Option FieldType)) := rfl
theorem mt_141 : mt0 141 = (⟨"SleptFor","lowestOf","(I)I"⟩, prog_1_method_48_code, 2, (Option.some FieldType.int)) := rfl
theorem mt_142 : mt0 142 = (⟨"SleptFor","power","(JI)J"⟩, prog_1_method_49_code, 6, (Option.some FieldType.long)) := rfl
theorem mt_143 : mt0 143 = (⟨"SleptFor","atLeast","(IIJJ)J"⟩, prog_1_method_50_code, 11, (Option.some FieldType.long)) := rfl
theorem mt_144 : mt0 144 = (⟨"SleptFor","commonDivisor","(JJ)J"⟩, prog_1_method_51_code, 11, (Option.some FieldType.long)) := rfl
theorem mt_145 : mt0 145 = (⟨"SleptForModel","in","(III)Z"⟩, prog_14_method_2_code, 3, (Option.some FieldType.boolean)) := rfl
theorem mt_146 : mt0 146 = (⟨"SleptForModel","has","(II)Z"⟩, prog_14_method_3_code, 2, (Option.some FieldType.boolean)) := rfl
theorem mt_147 : mt0 147 = (⟨"SleptForModel","many","(I)I"⟩, prog_14_method_4_code, 3, (Option.some FieldType.int)) := rfl
theorem mt_148 : mt0 148 = (⟨"SleptForModel","copies","(Z)V"⟩, prog_14_method_5_code, 3, (Option.none : Option FieldType)) := rfl
theorem mt_149 : mt0 149 = (⟨"SleptForModel","isPerson","(I)Z"⟩, prog_14_method_6_code, 2, (Option.some FieldType.boolean)) := rfl
theorem mt_150 : mt0 150 = (⟨"SleptForModel","isWork","(I)Z"⟩, prog_14_method_7_code, 2, (Option.some FieldType.boolean)) := rfl
theorem mt_151 : mt0 151 = (⟨"SleptForModel","isSet","(I)Z"⟩, prog_14_method_8_code, 2, (Option.some FieldType.boolean)) := rfl
theorem mt_152 : mt0 152 = (⟨"SleptForModel","person","(II)I"⟩, prog_14_method_9_code, 5, (Option.some FieldType.int)) := rfl
theorem mt_153 : mt0 153 = (⟨"SleptForModel","work","(II)I"⟩, prog_14_method_10_code, 4, (Option.some FieldType.int)) := rfl
theorem mt_154 : mt0 154 = (⟨"SleptForModel","may","(II)Z"⟩, prog_14_method_11_code, 3, (Option.some FieldType.boolean)) := rfl
theorem mt_155 : mt0 155 = (⟨"SleptForModel","hears","(II)Z"⟩, prog_14_method_12_code, 3, (Option.some FieldType.boolean)) := rfl
theorem mt_156 : mt0 156 = (⟨"SleptForModel","keepsStep","()V"⟩, prog_14_method_13_code, 2, (Option.none : Option FieldType)) := rfl
theorem mt_157 : mt0 157 = (⟨"SleptForModel","undo","()I"⟩, prog_14_method_14_code, 2, (Option.some FieldType.int)) := rfl
theorem mt_158 : mt0 158 = (⟨"SleptForModel","put","(I)V"⟩, prog_14_method_15_code, 3, (Option.none : Option FieldType)) := rfl
theorem mt_159 : mt0 159 = (⟨"SleptForModel","feed","(IIIII)I"⟩, prog_14_method_16_code, 6, (Option.some FieldType.int)) := rfl
theorem mt_160 : mt0 160 = (⟨"SleptForModel","end","(I)I"⟩, prog_14_method_17_code, 2, (Option.some FieldType.int)) := rfl
theorem mt_161 : mt0 161 = (⟨"SleptForModel","isLetter","(I)Z"⟩, prog_14_method_18_code, 1, (Option.some FieldType.boolean)) := rfl
theorem mt_162 : mt0 162 = (⟨"SleptForModel","wordOf","(J)I"⟩, prog_14_method_19_code, 2, (Option.some FieldType.int)) := rfl
theorem mt_163 : mt0 163 = (⟨"SleptForModel","next","()V"⟩, prog_14_method_20_code, 5, (Option.none : Option FieldType)) := rfl
theorem mt_164 : mt0 164 = (⟨"SleptForModel","isSign","(I)Z"⟩, prog_14_method_21_code, 2, (Option.some FieldType.boolean)) := rfl
theorem mt_165 : mt0 165 = (⟨"SleptForModel","isWord","(I)Z"⟩, prog_14_method_22_code, 2, (Option.some FieldType.boolean)) := rfl
theorem mt_166 : mt0 166 = (⟨"SleptForModel","errs","(I)V"⟩, prog_14_method_23_code, 2, (Option.none : Option FieldType)) := rfl
theorem mt_167 : mt0 167 = (⟨"SleptForModel","emits","(II)V"⟩, prog_14_method_24_code, 3, (Option.none : Option FieldType)) := rfl
theorem mt_168 : mt0 168 = (⟨"SleptForModel","opensFrame","(I)V"⟩, prog_14_method_25_code, 2, (Option.none : Option FieldType)) := rfl
theorem mt_169 : mt0 169 = (⟨"SleptForModel","top","()I"⟩, prog_14_method_26_code, 1, (Option.some FieldType.int)) := rfl
theorem mt_170 : mt0 170 = (⟨"SleptForModel","opensSign","(I)Z"⟩, prog_14_method_27_code, 2, (Option.some FieldType.boolean)) := rfl
theorem mt_171 : mt0 171 = (⟨"SleptForModel","rank","(I)I"⟩, prog_14_method_28_code, 1, (Option.some FieldType.int)) := rfl
theorem mt_172 : mt0 172 = (⟨"SleptForModel","works","(I)V"⟩, prog_14_method_29_code, 2, (Option.none : Option FieldType)) := rfl
theorem mt_173 : mt0 173 = (⟨"SleptForModel","waitsFor","(I)V"⟩, prog_14_method_30_code, 2, (Option.none : Option FieldType)) := rfl
theorem mt_174 : mt0 174 = (⟨"SleptForModel","asks","()V"⟩, prog_14_method_31_code, 2, (Option.none : Option FieldType)) := rfl
theorem mt_175 : mt0 175 = (⟨"SleptForModel","mayName","(II)Z"⟩, prog_14_method_32_code, 2, (Option.some FieldType.boolean)) := rfl
theorem mt_176 : mt0 176 = (⟨"SleptForModel","nameNow","()I"⟩, prog_14_method_33_code, 1, (Option.some FieldType.int)) := rfl
theorem mt_177 : mt0 177 = (⟨"SleptForModel","begins","()V"⟩, prog_14_method_34_code, 3, (Option.none : Option FieldType)) := rfl
theorem mt_178 : mt0 178 = (⟨"SleptForModel","oneIsOver","()V"⟩, prog_14_method_35_code, 1, (Option.none : Option FieldType)) := rfl
theorem mt_179 : mt0 179 = (⟨"SleptForModel","askIsOver","()V"⟩, prog_14_method_36_code, 1, (Option.none : Option FieldType)) := rfl
theorem mt_180 : mt0 180 = (⟨"SleptForModel","isAsking","(I)Z"⟩, prog_14_method_37_code, 1, (Option.some FieldType.boolean)) := rfl
theorem mt_181 : mt0 181 = (⟨"SleptForModel","turnsTo","(II)V"⟩, prog_14_method_38_code, 4, (Option.none : Option FieldType)) := rfl
theorem mt_182 : mt0 182 = (⟨"SleptForModel","goesOn","()V"⟩, prog_14_method_39_code, 3, (Option.none : Option FieldType)) := rfl
theorem mt_183 : mt0 183 = (⟨"SleptForModel","asksOn","()V"⟩, prog_14_method_40_code, 1, (Option.none : Option FieldType)) := rfl
theorem mt_184 : mt0 184 = (⟨"SleptForModel","clauseIsOver","()V"⟩, prog_14_method_41_code, 1, (Option.none : Option FieldType)) := rfl
theorem mt_185 : mt0 185 = (⟨"SleptForModel","number","(II)I"⟩, prog_14_method_42_code, 4, (Option.some FieldType.int)) := rfl
theorem mt_186 : mt0 186 = (⟨"SleptForModel","wasTold","(I)Z"⟩, prog_14_method_43_code, 4, (Option.some FieldType.boolean)) := rfl
theorem mt_187 : mt0 187 = (⟨"SleptForModel","numberBehind","(III)I"⟩, prog_14_method_44_code, 4, (Option.some FieldType.int)) := rfl
theorem mt_188 : mt0 188 = (⟨"SleptForModel","doing","()V"⟩, prog_14_method_45_code, 4, (Option.none : Option FieldType)) := rfl
theorem mt_189 : mt0 189 = (⟨"SleptForModel","clause","()V"⟩, prog_14_method_46_code, 1, (Option.none : Option FieldType)) := rfl
theorem mt_190 : mt0 190 = (⟨"SleptForModel","text","()I"⟩, prog_14_method_47_code, 4, (Option.some FieldType.int)) := rfl
theorem mt_191 : mt0 191 = (⟨"SleptForModel","fault","(I)I"⟩, prog_14_method_48_code, 2, (Option.some FieldType.int)) := rfl
theorem mt_192 : mt0 192 = (⟨"SleptForModel","bound","(J)J"⟩, prog_14_method_49_code, 2, (Option.some FieldType.long)) := rfl
theorem mt_193 : mt0 193 = (⟨"SleptForModel","worked","(IJJ)J"⟩, prog_14_method_50_code, 5, (Option.some FieldType.long)) := rfl
theorem mt_194 : mt0 194 = (⟨"SleptForModel","saysOf","(I)J"⟩, prog_14_method_51_code, 5, (Option.some FieldType.long)) := rfl
theorem mt_195 : mt0 195 = (⟨"SleptForModel","by","(I)Z"⟩, prog_14_method_52_code, 2, (Option.some FieldType.boolean)) := rfl
theorem mt_196 : mt0 196 = (⟨"SleptForModel","ordersOf","(I)I"⟩, prog_14_method_53_code, 5, (Option.some FieldType.int)) := rfl
theorem mt_197 : mt0 197 = (⟨"SleptForModel","held","(JII)I"⟩, prog_14_method_54_code, 4, (Option.some FieldType.int)) := rfl
theorem mt_198 : mt0 198 = (⟨"SleptForModel","laysNow","()V"⟩, prog_14_method_55_code, 2, (Option.none : Option FieldType)) := rfl
theorem mt_199 : mt0 199 = (⟨"SleptForModel","keepsNow","()V"⟩, prog_14_method_56_code, 2, (Option.none : Option FieldType)) := rfl
theorem mt_200 : mt0 200 = (⟨"SleptForModel","names","(II)V"⟩, prog_14_method_57_code, 3, (Option.none : Option FieldType)) := rfl
theorem mt_201 : mt0 201 = (⟨"SleptForModel","worthBy","(IIII)I"⟩, prog_14_method_58_code, 6, (Option.some FieldType.int)) := rfl
theorem mt_202 : mt0 202 = (⟨"SleptForModel","burnBy","(III)I"⟩, prog_14_method_59_code, 5, (Option.some FieldType.int)) := rfl
theorem mt_203 : mt0 203 = (⟨"SleptForModel","soundOf","(I)I"⟩, prog_14_method_60_code, 3, (Option.some FieldType.int)) := rfl
theorem mt_204 : mt0 204 = (⟨"SleptForModel","priceOf","(II)I"⟩, prog_14_method_61_code, 4, (Option.some FieldType.int)) := rfl
theorem mt_205 : mt0 205 = (⟨"SleptForModel","fuelOf","(IIZ)I"⟩, prog_14_method_62_code, 6, (Option.some FieldType.int)) := rfl
theorem mt_206 : mt0 206 = (⟨"SleptForModel","allThat","(I)I"⟩, prog_14_method_63_code, 4, (Option.some FieldType.int)) := rfl
theorem mt_207 : mt0 207 = (⟨"SleptForModel","drawn","(I)I"⟩, prog_14_method_64_code, 3, (Option.some FieldType.int)) := rfl
theorem mt_208 : mt0 208 = (⟨"SleptForModel","runs","(I)V"⟩, prog_14_method_65_code, 4, (Option.none : Option FieldType)) := rfl
theorem mt_209 : mt0 209 = (⟨"SleptForModel","wakesOn","(II)I"⟩, prog_14_method_66_code, 8, (Option.some FieldType.int)) := rfl
theorem mt_210 : mt0 210 = (⟨"SleptForModel","wokenByNoise","()I"⟩, prog_14_method_67_code, 4, (Option.some FieldType.int)) := rfl
theorem mt_211 : mt0 211 = (⟨"SleptForModel","idles","(I)V"⟩, prog_14_method_68_code, 3, (Option.none : Option FieldType)) := rfl
theorem mt_212 : mt0 212 = (⟨"SleptForModel","hourGoes","()I"⟩, prog_14_method_69_code, 2, (Option.some FieldType.int)) := rfl
theorem mt_213 : mt0 213 = (⟨"SleptForModel","keepsHour","()V"⟩, prog_14_method_70_code, 2, (Option.none : Option FieldType)) := rfl
theorem mt_214 : mt0 214 = (⟨"SleptForModel","hourDone","()I"⟩, prog_14_method_71_code, 2, (Option.some FieldType.int)) := rfl
theorem mt_215 : mt0 215 = (⟨"SleptForModel","hour","(I)I"⟩, prog_14_method_72_code, 4, (Option.some FieldType.int)) := rfl
theorem mt_216 : mt0 216 = (⟨"SleptForModel","isAt","(II)Z"⟩, prog_14_method_73_code, 3, (Option.some FieldType.boolean)) := rfl
theorem mt_217 : mt0 217 = (⟨"SleptForModel","beginsTo","(III)V"⟩, prog_14_method_74_code, 4, (Option.none : Option FieldType)) := rfl
theorem mt_218 : mt0 218 = (⟨"SleptForModel","wake","(II)Z"⟩, prog_14_method_75_code, 3, (Option.some FieldType.boolean)) := rfl
theorem mt_219 : mt0 219 = (⟨"SleptForModel","sleep","(II)Z"⟩, prog_14_method_76_code, 3, (Option.some FieldType.boolean)) := rfl
theorem mt_220 : mt0 220 = (⟨"SleptForModel","idle","(I)Z"⟩, prog_14_method_77_code, 2, (Option.some FieldType.boolean)) := rfl
theorem mt_221 : mt0 221 = (⟨"SleptForModel","calls","(I)I"⟩, prog_14_method_78_code, 3, (Option.some FieldType.int)) := rfl
theorem mt_222 : mt0 222 = (⟨"SleptForModel","call","(I)I"⟩, prog_14_method_79_code, 2, (Option.some FieldType.int)) := rfl
theorem mt_223 : mt0 223 = (⟨"SleptForModel","repay","(III)I"⟩, prog_14_method_80_code, 4, (Option.some FieldType.int)) := rfl
theorem mt_224 : mt0 224 = (⟨"SleptForModel","draw","(I)I"⟩, prog_14_method_81_code, 3, (Option.some FieldType.int)) := rfl
theorem mt_225 : mt0 225 = (⟨"SleptForModel","lowestFor","(I)I"⟩, prog_14_method_82_code, 4, (Option.some FieldType.int)) := rfl
theorem mt_226 : mt0 226 = (⟨"SleptForModel","happens","()I"⟩, prog_14_method_83_code, 4, (Option.some FieldType.int)) := rfl
theorem mt_227 : mt0 227 = (⟨"SleptForModel","year","(II)I"⟩, prog_14_method_84_code, 5, (Option.some FieldType.int)) := rfl
theorem mt_228 : mt0 228 = (⟨"SleptForModel","hours","(I)Z"⟩, prog_14_method_85_code, 3, (Option.some FieldType.boolean)) := rfl
theorem mt_229 : mt0 229 = (⟨"SleptForModel","played","(I)I"⟩, prog_14_method_86_code, 5, (Option.some FieldType.int)) := rfl
theorem mt_230 : mt0 230 = (⟨"SleptForModel","of","(II)I"⟩, prog_14_method_87_code, 4, (Option.some FieldType.int)) := rfl
theorem mt_231 : mt0 231 = (⟨"SleptForModel","ofWork","(II)I"⟩, prog_14_method_88_code, 3, (Option.some FieldType.int)) := rfl
theorem mt_232 : mt0 232 = (⟨"SleptForModel","owes","(II)I"⟩, prog_14_method_89_code, 3, (Option.some FieldType.int)) := rfl
theorem mt_233 : mt0 233 = (⟨"SleptForModel","isKept","(I)Z"⟩, prog_14_method_90_code, 2, (Option.some FieldType.boolean)) := rfl
theorem mt_234 : mt0 234 = (⟨"SleptForModel","kept","(II)I"⟩, prog_14_method_91_code, 3, (Option.some FieldType.int)) := rfl
theorem mt_235 : mt0 235 = (⟨"SleptForModel","foretoldDone","(II)I"⟩, prog_14_method_92_code, 5, (Option.some FieldType.int)) := rfl
theorem mt_236 : mt0 236 = (⟨"SleptForModel","foretoldStop","(II)I"⟩, prog_14_method_93_code, 5, (Option.some FieldType.int)) := rfl
theorem mt_237 : mt0 237 = (⟨"SleptForModel","laysMatch","(III)Z"⟩, prog_14_method_94_code, 7, (Option.some FieldType.boolean)) := rfl
theorem mt_238 : mt0 238 = (⟨"SleptForModel","laysWay","(I)Z"⟩, prog_14_method_95_code, 5, (Option.some FieldType.boolean)) := rfl
theorem mt_239 : mt0 239 = (⟨"SleptForModel","isEnough","()Z"⟩, prog_14_method_96_code, 4, (Option.some FieldType.boolean)) := rfl
theorem mt_240 : mt0 240 = (⟨"SleptForModel","priceNow","()I"⟩, prog_14_method_97_code, 3, (Option.some FieldType.int)) := rfl
theorem mt_241 : mt0 241 = (⟨"SleptForModel","sleepNow","()I"⟩, prog_14_method_98_code, 3, (Option.some FieldType.int)) := rfl
theorem mt_242 : mt0 242 = (⟨"SleptForModel","match","(IIIZI)I"⟩, prog_14_method_99_code, 13, (Option.some FieldType.int)) := rfl
theorem mt_243 : mt0 243 = (⟨"SleptForModel","cannot","(I)Z"⟩, prog_14_method_100_code, 6, (Option.some FieldType.boolean)) := rfl
theorem mt_244 : mt0 244 = (⟨"SleptForModel","whoCannot","(III)I"⟩, prog_14_method_101_code, 7, (Option.some FieldType.int)) := rfl
theorem mt_245 : mt0 245 = (⟨"SleptForModel","behind","(II)I"⟩, prog_14_method_102_code, 8, (Option.some FieldType.int)) := rfl
theorem mt_246 : mt0 246 = (⟨"SleptForModel","valley","(II)I"⟩, prog_14_method_103_code, 5, (Option.some FieldType.int)) := rfl
theorem mt_247 : mt0 247 = (⟨"SleptForModel","onEnd","(I)I"⟩, prog_14_method_104_code, 3, (Option.some FieldType.int)) := rfl
theorem mt_248 : mt0 248 = (⟨"SleptForModel","mayShift","(III)Z"⟩, prog_14_method_105_code, 6, (Option.some FieldType.boolean)) := rfl
theorem mt_249 : mt0 249 = (⟨"SleptForModel","changesTo","(I)I"⟩, prog_14_method_106_code, 4, (Option.some FieldType.int)) := rfl
theorem mt_250 : mt0 250 = (⟨"SleptForModel","staysWithin","(IIII)Z"⟩, prog_14_method_107_code, 7, (Option.some FieldType.boolean)) := rfl
theorem mt_251 : mt0 251 = (⟨"SleptForModel","rotaWithin","(IIIII)Z"⟩, prog_14_method_108_code, 7, (Option.some FieldType.boolean)) := rfl
theorem mt_252 : mt0 252 = (⟨"SleptForModel","rota","(IIIII)I"⟩, prog_14_method_109_code, 8, (Option.some FieldType.int)) := rfl
theorem mt_253 : mt0 253 = (⟨"SleptForModel","chain","(I)I"⟩, prog_14_method_110_code, 2, (Option.some FieldType.int)) := rfl
theorem mt_254 : mt0 254 = (⟨"SleptForModel","guard","(II)I"⟩, prog_14_method_111_code, 6, (Option.some FieldType.int)) := rfl
theorem mt_255 : mt0 255 = (⟨"SleptForModel","power","(JI)J"⟩, prog_14_method_112_code, 6, (Option.some FieldType.long)) := rfl
theorem mt_256 : mt0 256 = (⟨"SleptForModel","common","(JJ)J"⟩, prog_14_method_113_code, 10, (Option.some FieldType.long)) := rfl
theorem mt_257 : mt0 257 = (⟨"SleptForModel","choices","(II)J"⟩, prog_14_method_114_code, 5, (Option.some FieldType.long)) := rfl
theorem mt_258 : mt0 258 = (⟨"SleptForModel","enough","(IIIIZ)J"⟩, prog_14_method_115_code, 16, (Option.some FieldType.long)) := rfl
theorem mt_259 : mt0 259 = (⟨"SleptForModel","isInRound","(II)Z"⟩, prog_14_method_116_code, 4, (Option.some FieldType.boolean)) := rfl
theorem mt_260 : mt0 260 = (⟨"SleptForModel","isRing","(II)Z"⟩, prog_14_method_117_code, 4, (Option.some FieldType.boolean)) := rfl
theorem mt_261 : mt0 261 = (⟨"SleptForModel","laysRing","()I"⟩, prog_14_method_118_code, 3, (Option.some FieldType.int)) := rfl
theorem mt_262 : mt0 262 = (⟨"SleptForModel","ring","(I)I"⟩, prog_14_method_119_code, 6, (Option.some FieldType.int)) := rfl
theorem mt_263 : mt0 263 = (⟨"SleptForModel","stopsWithout","(I)I"⟩, prog_14_method_120_code, 4, (Option.some FieldType.int)) := rfl
theorem mt_264 : mt0 264 = (⟨"SleptForModel","without","(I)I"⟩, prog_14_method_121_code, 2, (Option.some FieldType.int)) := rfl
theorem mt_265 : mt0 265 = (⟨"SleptForModel","strike","(I)I"⟩, prog_14_method_122_code, 5, (Option.some FieldType.int)) := rfl
theorem mt_266 : mt0 266 = (⟨"SleptForModel","fits","(I)I"⟩, prog_14_method_123_code, 6, (Option.some FieldType.int)) := rfl
theorem mt_267 : mt0 267 = (⟨"SleptForModel","forNobody","()I"⟩, prog_14_method_124_code, 3, (Option.some FieldType.int)) := rfl
theorem mt_268 : mt0 268 = (⟨"SleptForModel","image","()I"⟩, prog_14_method_125_code, 1, (Option.some FieldType.int)) := rfl
theorem mt_269 : mt0 269 = (⟨"SleptForModel","back","()I"⟩, prog_14_method_126_code, 1, (Option.some FieldType.int)) := rfl
theorem mt_270 : mt0 270 = (⟨"SleptForModel","about","(I)I"⟩, prog_14_method_127_code, 2, (Option.some FieldType.int)) := rfl
def lkN : List (List Nat) := [[0, 1, 30, 1, 0], [0, 1, 34, 1, 1], [2, 1, 37, 1, 2, 1], [3, 1, 41, 0, 1], [2, 1, 47, 4, 1, 1], [1, 1, 30, 1, 0], [1, 1, 34, 1, 1], [0, 1, 9, 1, 2], [4, 1, 51], [0, 1, 15, 1, 3], [0, 1, 18, 1, 4], [0, 1, 21, 1, 5], [0, 1, 24, 1, 6], [0, 1, 27, 1, 7], [0, 3, 11, 3, 0], [0, 3, 15, 3, 1], [0, 3, 18, 3, 2], [2, 3, 34, 9, 4, 3], [0, 3, 30, 3, 7], [1, 3, 30, 3, 7], [4, 3, 38], [0, 3, 21, 3, 3], [0, 3, 24, 3, 4], [0, 3, 27, 3, 5], [0, 3, 44, 3, 6], [1, 3, 44, 3, 6], [1, 9, 30, 9, 4], [1, 9, 34, 9, 7], [0, 9, 24, 9, 5], [0, 9, 34, 9, 7], [0, 9, 27, 9, 6], [0, 9, 9, 9, 0], [4, 9, 37], [0, 9, 15, 9, 1], [0, 9, 18, 9, 2], [0, 9, 21, 9, 3], [0, 9, 30, 9, 4], [0, 8, 11, 8, 0], [0, 8, 17, 8, 1], [0, 8, 21, 8, 2], [2, 8, 24, 12, 3, 3], [1, 8, 21, 8, 2], [1, 8, 17, 8, 1], [2, 8, 28, 13, 3, 3], [4, 8, 31], [0, 10, 21, 10, 1], [0, 10, 40, 3, 6], [5, 10, 43], [0, 10, 12, 10, 0], [2, 10, 49, 6, 2, 1], [2, 10, 53, 14, 2, 3], [0, 10, 28, 10, 2], [2, 10, 56, 21, 2, 8], [0, 10, 32, 10, 3], [4, 10, 59], [0, 10, 65, 10, 4], [1, 10, 65, 10, 4], [0, 10, 36, 10, 5], [1, 10, 36, 10, 5], [2, 2, 26, 31, 2, 2], [0, 2, 9, 2, 2], [0, 2, 18, 2, 0], [0, 2, 30, 10, 0], [0, 2, 36, 1, 2], [2, 2, 41, 32, 3, 2], [2, 2, 45, 2, 2, 1], [0, 2, 48, 1, 7], [0, 2, 51, 3, 1], [0, 2, 56, 3, 2], [0, 2, 59, 3, 6], [2, 2, 63, 24, 6, 2], [2, 2, 67, 25, 5, 2], [2, 2, 71, 8, 3, 3], [0, 2, 75, 3, 3], [0, 2, 78, 10, 5], [0, 2, 22, 2, 1], [0, 2, 81, 9, 5], [0, 2, 86, 9, 7], [0, 2, 89, 9, 6], [0, 2, 15, 2, 3], [3, 2, 92, 33, 3], [6, 2, 96], [5, 2, 101], [1, 0, 26, 0, 4], [1, 0, 30, 0, 5], [2, 0, 33, 7, 2, 3], [1, 0, 39, 0, 6], [0, 0, 42, 3, 0], [0, 0, 45, 3, 3], [2, 0, 48, 11, 2, 3], [0, 0, 22, 0, 1], [2, 0, 51, 30, 3, 2], [2, 0, 57, 29, 3, 2], [0, 0, 26, 0, 4], [2, 0, 60, 35, 3, 0], [0, 0, 30, 0, 5], [2, 0, 64, 38, 2, 0], [2, 0, 68, 36, 2, 0], [0, 0, 39, 0, 6], [2, 0, 72, 39, 3, 0], [2, 0, 76, 10, 2, 3], [0, 0, 80, 3, 2], [0, 0, 83, 3, 6], [1, 0, 83, 3, 6], [0, 0, 86, 3, 1], [0, 0, 18, 0, 0], [2, 0, 89, 2, 2, 1], [0, 0, 95, 3, 5], [0, 0, 98, 1, 6], [6, 0, 101], [2, 0, 106, 8, 3, 3], [0, 0, 110, 3, 4], [0, 0, 113, 1, 5], [0, 0, 9, 0, 2], [2, 0, 116, 37, 4, 0], [0, 0, 120, 1, 7], [2, 0, 123, 26, 4, 2], [0, 0, 15, 0, 3], [0, 0, 127, 1, 3], [0, 4, 11, 4, 2], [3, 4, 47, 41, 2], [1, 4, 51, 4, 4], [0, 4, 15, 4, 3], [1, 4, 55, 4, 5], [1, 4, 59, 4, 10], [0, 4, 51, 4, 4], [0, 4, 18, 4, 6], [0, 4, 43, 4, 1], [0, 4, 39, 4, 0], [0, 4, 62, 10, 1], [0, 4, 68, 3, 6], [2, 4, 73, 25, 5, 2], [0, 4, 27, 4, 9], [0, 4, 55, 4, 5], [2, 4, 79, 43, 4, 4], [0, 4, 83, 10, 0], [0, 4, 87, 1, 4], [0, 4, 21, 4, 7], [2, 4, 92, 24, 6, 2], [5, 4, 96], [0, 4, 102, 3, 4], [0, 4, 24, 4, 8], [2, 4, 105, 27, 4, 2], [0, 4, 59, 4, 10], [6, 4, 109], [1, 4, 112, 4, 15], [1, 4, 115, 4, 14], [0, 4, 30, 4, 11], [2, 4, 118, 45, 4, 4], [0, 4, 115, 4, 14], [2, 4, 122, 46, 4, 4], [0, 4, 33, 4, 12], [0, 4, 36, 4, 13], [4, 4, 126], [0, 4, 112, 4, 15], [2, 4, 132, 49, 2, 4], [2, 4, 136, 50, 2, 4], [2, 4, 139, 51, 2, 4], [6, 7, 21], [1, 7, 27, 7, 0], [1, 7, 31, 7, 1], [1, 7, 34, 7, 2], [1, 7, 37, 7, 3], [1, 7, 40, 7, 7], [0, 7, 9, 7, 4], [0, 7, 31, 7, 1], [2, 7, 43, 54, 5, 7], [0, 7, 40, 7, 7], [0, 7, 27, 7, 0], [2, 7, 47, 55, 3, 7], [0, 7, 15, 7, 5], [0, 7, 18, 7, 6], [4, 7, 50], [0, 7, 34, 7, 2], [0, 7, 37, 7, 3], [0, 5, 21, 5, 0], [0, 5, 33, 10, 0], [0, 5, 39, 1, 4], [3, 5, 44, 0, 1], [0, 5, 50, 10, 1], [2, 5, 54, 7, 2, 3], [0, 5, 29, 5, 2], [2, 5, 59, 38, 2, 0], [2, 5, 65, 39, 3, 0], [2, 5, 69, 60, 1, 5], [2, 5, 72, 61, 2, 5], [2, 5, 75, 62, 4, 5], [0, 5, 9, 5, 3], [0, 5, 79, 3, 4], [0, 5, 15, 5, 4], [2, 5, 82, 63, 3, 5], [6, 5, 85], [0, 5, 18, 5, 5], [0, 5, 90, 3, 0], [0, 5, 25, 5, 1], [2, 5, 93, 28, 4, 2], [2, 5, 99, 8, 3, 3], [2, 5, 103, 64, 1, 5], [2, 5, 106, 65, 3, 5], [2, 5, 109, 29, 3, 2], [2, 5, 113, 4, 1, 1], [0, 5, 117, 3, 6], [0, 5, 121, 10, 3], [2, 5, 124, 22, 1, 10], [0, 5, 127, 3, 1], [0, 6, 35, 6, 0], [6, 6, 38], [1, 6, 44, 6, 1], [2, 6, 47, 90, 1, 6], [1, 6, 28, 6, 11], [1, 6, 32, 6, 12], [0, 6, 24, 6, 10], [2, 6, 50, 15, 1, 9], [1, 6, 53, 6, 7], [0, 6, 9, 6, 3], [1, 6, 56, 6, 8], [0, 6, 56, 6, 8], [2, 6, 59, 74, 1, 6], [0, 6, 53, 6, 7], [0, 6, 63, 6, 6], [0, 6, 15, 6, 4], [2, 6, 66, 72, 2, 6], [2, 6, 70, 71, 1, 6], [0, 6, 73, 9, 4], [0, 6, 76, 9, 5], [1, 6, 73, 9, 4], [0, 6, 79, 9, 0], [2, 6, 81, 75, 2, 6], [2, 6, 84, 76, 3, 6], [2, 6, 88, 73, 2, 6], [1, 6, 91, 6, 9], [0, 6, 94, 9, 7], [2, 6, 97, 78, 2, 6], [2, 6, 100, 16, 2, 9], [0, 6, 104, 9, 1], [2, 6, 107, 77, 5, 6], [0, 6, 111, 9, 2], [0, 6, 114, 9, 3], [0, 6, 18, 6, 5], [2, 6, 117, 79, 2, 6], [2, 6, 120, 80, 2, 6], [2, 6, 123, 81, 1, 6], [2, 6, 126, 82, 1, 6], [2, 6, 129, 83, 2, 6], [0, 6, 91, 6, 9], [2, 6, 135, 84, 2, 6], [2, 6, 138, 17, 2, 9], [2, 6, 141, 85, 2, 6], [2, 6, 144, 86, 2, 6], [0, 6, 44, 6, 1], [1, 6, 147, 6, 2], [1, 6, 63, 6, 6], [0, 6, 147, 6, 2], [3, 6, 150, 88, 1], [2, 6, 153, 91, 1, 6], [3, 6, 157, 89, 1], [2, 6, 160, 93, 1, 6], [2, 6, 163, 94, 2, 6], [2, 6, 167, 92, 3, 6], [2, 6, 170, 87, 2, 6], [0, 11, 10, 11, 0], [0, 11, 49, 10, 0], [0, 11, 93, 1, 0], [0, 11, 99, 1, 2], [0, 11, 102, 1, 3], [1, 11, 93, 1, 0], [0, 11, 105, 1, 1], [0, 11, 108, 1, 6], [0, 11, 111, 1, 7], [1, 11, 105, 1, 1], [2, 11, 114, 3, 3, 1], [0, 11, 118, 1, 4], [0, 11, 121, 1, 5], [2, 11, 124, 135, 3, 11], [2, 11, 127, 2, 2, 1], [0, 11, 131, 10, 2], [0, 11, 135, 10, 1], [2, 11, 138, 19, 2, 8], [2, 11, 144, 9, 4, 3], [2, 11, 148, 1, 2, 1], [2, 11, 151, 10, 2, 3], [0, 11, 56, 11, 7], [2, 11, 155, 40, 3, 0], [3, 11, 159, 0, 1], [0, 11, 165, 3, 4], [0, 11, 168, 3, 6], [2, 11, 171, 137, 3, 11], [1, 11, 175, 3, 7], [2, 11, 178, 138, 1, 11], [0, 11, 182, 11, 4], [2, 11, 185, 140, 2, 11], [1, 11, 182, 11, 4], [0, 11, 188, 10, 4], [0, 11, 21, 11, 2], [0, 11, 34, 11, 5], [2, 11, 190, 70, 2, 6], [0, 11, 193, 6, 10], [2, 11, 197, 18, 2, 9], [1, 11, 188, 10, 4], [0, 11, 201, 6, 11], [0, 11, 204, 6, 12], [1, 11, 207, 10, 5], [0, 11, 210, 9, 4], [0, 11, 213, 9, 0], [2, 11, 216, 139, 3, 11], [2, 11, 220, 20, 2, 8], [0, 11, 224, 8, 2], [0, 11, 227, 3, 0], [0, 11, 230, 3, 1], [0, 11, 233, 3, 2], [0, 11, 236, 3, 3], [0, 11, 43, 11, 6], [2, 11, 239, 26, 4, 2], [2, 11, 243, 29, 3, 2], [2, 11, 246, 28, 4, 2], [2, 11, 250, 30, 3, 2], [0, 11, 253, 3, 5], [2, 11, 256, 22, 1, 10], [0, 11, 259, 10, 3], [0, 11, 63, 11, 8], [2, 11, 262, 14, 2, 3], [2, 11, 264, 34, 2, 0], [0, 11, 267, 0, 5], [2, 11, 270, 136, 4, 11], [0, 11, 72, 11, 9], [2, 11, 274, 42, 5, 4], [2, 11, 278, 44, 1, 4], [2, 11, 282, 47, 2, 4], [0, 11, 285, 4, 15], [2, 11, 288, 48, 1, 4], [0, 11, 88, 11, 11], [2, 11, 291, 57, 3, 5], [2, 11, 295, 5, 4, 1], [0, 11, 79, 11, 10], [2, 11, 298, 52, 5, 7], [2, 11, 301, 53, 1, 7], [0, 11, 302, 7, 7], [2, 11, 305, 56, 2, 7], [2, 11, 308, 58, 3, 5], [3, 11, 313, 142, 2], [3, 11, 319, 143, 4], [3, 11, 323, 144, 2], [2, 11, 327, 59, 2, 5], [2, 11, 330, 66, 2, 5], [2, 11, 333, 67, 2, 5], [2, 11, 336, 68, 2, 5], [2, 11, 339, 69, 1, 5], [0, 11, 16, 11, 1], [2, 11, 342, 23, 2, 10], [0, 11, 175, 3, 7], [0, 11, 207, 10, 5], [2, 11, 345, 7, 2, 3], [0, 11, 348, 0, 4], [0, 11, 351, 0, 6], [2, 11, 354, 11, 2, 3], [3, 11, 357, 141, 1], [0, 11, 360, 9, 1], [0, 11, 363, 9, 2], [2, 11, 366, 99, 3, 11], [2, 11, 369, 100, 3, 11], [2, 11, 372, 101, 2, 11], [2, 11, 375, 102, 2, 11], [0, 11, 378, 9, 3], [2, 11, 381, 103, 4, 11], [0, 11, 25, 11, 3], [0, 12, 13, 12, 1], [0, 12, 7, 12, 0], [3, 12, 149, 145, 3], [2, 12, 153, 149, 2, 12], [3, 12, 157, 146, 2], [0, 12, 16, 12, 2], [0, 12, 161, 12, 3], [1, 12, 161, 12, 3], [2, 12, 164, 158, 2, 12], [0, 12, 228, 12, 15], [0, 12, 231, 12, 14], [1, 12, 228, 12, 15], [1, 12, 234, 12, 16], [1, 12, 237, 12, 17], [3, 12, 240, 161, 1], [3, 12, 245, 162, 1], [1, 12, 249, 12, 18], [0, 12, 249, 12, 18], [0, 12, 237, 12, 17], [0, 12, 253, 12, 19], [1, 12, 253, 12, 19], [0, 12, 234, 12, 16], [1, 12, 256, 12, 20], [0, 12, 81, 12, 38], [0, 12, 259, 12, 37], [0, 12, 84, 12, 39], [1, 12, 259, 12, 37], [0, 12, 51, 12, 23], [0, 12, 262, 12, 22], [1, 12, 262, 12, 22], [0, 12, 265, 12, 21], [2, 12, 268, 166, 2, 12], [1, 12, 265, 12, 21], [2, 12, 271, 168, 2, 12], [2, 12, 274, 163, 1, 12], [0, 12, 277, 12, 25], [0, 12, 60, 12, 27], [0, 12, 57, 12, 26], [3, 12, 280, 171, 1], [1, 12, 277, 12, 25], [2, 12, 284, 167, 3, 12], [2, 12, 288, 172, 2, 12], [2, 12, 291, 165, 2, 12], [2, 12, 294, 170, 2, 12], [1, 12, 297, 12, 28], [2, 12, 300, 176, 1, 12], [2, 12, 304, 178, 1, 12], [0, 12, 307, 12, 31], [3, 12, 310, 175, 2], [2, 12, 313, 164, 2, 12], [2, 12, 316, 169, 1, 12], [0, 12, 63, 12, 29], [2, 12, 319, 173, 2, 12], [2, 12, 322, 181, 3, 12], [3, 12, 325, 180, 1], [0, 12, 54, 12, 24], [2, 12, 328, 179, 1, 12], [2, 12, 331, 184, 1, 12], [0, 12, 334, 12, 30], [1, 12, 334, 12, 30], [0, 12, 66, 12, 32], [2, 12, 337, 185, 3, 12], [2, 12, 341, 187, 4, 12], [0, 12, 72, 12, 34], [0, 12, 75, 12, 35], [0, 12, 78, 12, 36], [1, 12, 307, 12, 31], [2, 12, 345, 186, 2, 12], [0, 12, 69, 12, 33], [2, 12, 348, 188, 1, 12], [1, 12, 231, 12, 14], [0, 12, 297, 12, 28], [2, 12, 351, 174, 1, 12], [2, 12, 354, 177, 1, 12], [2, 12, 357, 182, 1, 12], [2, 12, 360, 183, 1, 12], [2, 12, 363, 189, 1, 12], [1, 12, 20, 12, 4], [0, 12, 256, 12, 20], [1, 12, 24, 12, 5], [0, 12, 27, 12, 6], [0, 12, 30, 12, 7], [0, 12, 33, 12, 8], [0, 12, 36, 12, 9], [0, 12, 39, 12, 10], [0, 12, 42, 12, 11], [0, 12, 45, 12, 12], [0, 12, 48, 12, 13], [0, 12, 20, 12, 4], [0, 12, 24, 12, 5], [3, 12, 370, 192, 1], [0, 12, 90, 12, 41], [0, 12, 87, 12, 40], [3, 12, 374, 193, 3], [1, 12, 378, 12, 42], [1, 12, 381, 12, 43], [0, 12, 94, 12, 44], [0, 12, 97, 12, 45], [0, 12, 100, 12, 46], [0, 12, 103, 12, 47], [0, 12, 106, 12, 48], [0, 12, 109, 12, 49], [0, 12, 378, 12, 42], [0, 12, 381, 12, 43], [2, 12, 384, 196, 2, 12], [2, 12, 387, 200, 3, 12], [2, 12, 390, 194, 2, 12], [3, 12, 394, 197, 3], [2, 12, 398, 201, 5, 12], [0, 12, 402, 12, 50], [1, 12, 402, 12, 50], [2, 12, 405, 203, 2, 12], [1, 12, 408, 12, 51], [2, 12, 411, 206, 2, 12], [1, 12, 414, 12, 52], [2, 12, 417, 207, 2, 12], [2, 12, 420, 205, 4, 12], [2, 12, 424, 202, 4, 12], [2, 12, 427, 208, 2, 12], [0, 12, 408, 12, 51], [2, 12, 430, 210, 1, 12], [2, 12, 433, 209, 3, 12], [2, 12, 436, 211, 2, 12], [3, 12, 439, 147, 1], [0, 12, 414, 12, 52], [2, 12, 442, 198, 1, 12], [2, 12, 445, 212, 1, 12], [2, 12, 448, 213, 1, 12], [2, 12, 451, 199, 1, 12], [2, 12, 454, 156, 1, 12], [2, 12, 457, 214, 1, 12], [2, 12, 460, 216, 3, 12], [2, 12, 463, 150, 2, 12], [2, 12, 466, 217, 4, 12], [2, 12, 470, 221, 2, 12], [2, 12, 473, 224, 2, 12], [2, 12, 476, 225, 2, 12], [2, 12, 479, 226, 1, 12], [2, 12, 482, 215, 2, 12], [2, 12, 485, 218, 3, 12], [2, 12, 488, 219, 3, 12], [2, 12, 491, 220, 2, 12], [2, 12, 494, 222, 2, 12], [2, 12, 497, 223, 4, 12], [2, 12, 500, 228, 2, 12], [2, 12, 503, 233, 2, 12], [2, 12, 506, 151, 2, 12], [1, 12, 509, 12, 58], [1, 12, 512, 12, 59], [0, 12, 112, 12, 53], [0, 12, 509, 12, 58], [0, 12, 124, 12, 57], [0, 12, 115, 12, 54], [0, 12, 512, 12, 59], [0, 12, 118, 12, 55], [0, 12, 121, 12, 56], [2, 12, 515, 204, 3, 12], [0, 12, 127, 12, 60], [2, 12, 518, 237, 4, 12], [2, 12, 521, 238, 2, 12], [2, 12, 524, 239, 1, 12], [2, 12, 528, 241, 1, 12], [2, 12, 531, 240, 1, 12], [0, 12, 130, 12, 61], [2, 12, 534, 243, 2, 12], [0, 12, 133, 12, 62], [0, 12, 139, 12, 64], [2, 12, 537, 247, 2, 12], [2, 12, 540, 249, 2, 12], [2, 12, 543, 248, 4, 12], [2, 12, 546, 250, 5, 12], [0, 12, 136, 12, 63], [2, 12, 550, 251, 6, 12], [3, 12, 558, 255, 2], [3, 12, 562, 257, 2], [3, 12, 566, 256, 2], [0, 12, 142, 12, 65], [2, 12, 570, 259, 3, 12], [2, 12, 573, 260, 3, 12], [2, 12, 576, 261, 1, 12], [2, 12, 579, 263, 2, 12], [2, 12, 145, 148, 2, 12]]
def lkC : List (Nat × Nat × Value) := [(13, 265, .int (1431655765)), (13, 266, .int (858993459)), (13, 267, .int (252645135)), (2, 104, .long (1000000)), (2, 106, .int (1000000)), (2, 107, .long (-1000000)), (2, 109, .int (-1000000)), (4, 58, .int (1000000)), (11, 311, .long (-1)), (11, 317, .long (10)), (12, 168, .long (935275816)), (12, 170, .long (9133230)), (12, 172, .long (868178852)), (12, 174, .long (818583781)), (12, 176, .long (14555877)), (12, 178, .long (867326320)), (12, 180, .long (10898213)), (12, 182, .long (9313068)), (12, 184, .long (848758905)), (12, 186, .long (10681714)), (12, 188, .long (2164)), (12, 190, .long (158706)), (12, 192, .long (3375)), (12, 194, .long (2233)), (12, 196, .long (3058)), (12, 198, .long (138148)), (12, 200, .long (191476)), (12, 202, .long (2662)), (12, 204, .long (13797742)), (12, 206, .long (9882853)), (12, 208, .long (154532)), (12, 210, .long (227887)), (12, 212, .long (191479)), (12, 214, .long (3054)), (12, 216, .long (613879080)), (12, 218, .long (617240685)), (12, 220, .long (14584813)), (12, 222, .long (13769963)), (12, 224, .long (784243941)), (12, 226, .long (12548452)), (12, 243, .long (64)), (12, 252, .int (99999)), (12, 366, .long (1000000)), (12, 368, .long (-1000000)), (12, 554, .long (-1)), (12, 556, .long (10))]
