/** The sentences ahead of the promises that are about what only asks, and THE IMAGE: part III of the Terms. */
final class QuestionSentences extends Sentences {
    private QuestionSentences() {
    }

    static void all() {
        nothing();
        foretold();
        sets();
        pairs();
        likeOnes();
        cannot();
        behind();
        valley();
        rotas();
        rotasOfLikeOnes();
        chains();
        enough();
        rings();
        strikes();
        kept();
        image();
    }

    private static void nothing() {
        test("III", "All that follows changes nothing.", () -> {
            SleptFor x = rule(free(5, 2), "worth dream+who;burn on+2;price who;");
            allHear(x);
            x.wake(0, 1);
            allSleep(x, 2, 0);
            x.hour(3);
            String ahead = state(x);
            due(x.foretoldDone(60, 1) >= 0, true);
            due(x.foretoldStop(60, 0) > 0, true);
            due(x.match(3, 0, 12, true, -1) > 0, true);
            due(x.whoCannot(3, 0, 4), 3);
            due(x.behind(0, -1), 4);
            due(x.valley(1, 1), 11);
            due(x.rota(8, 15, 2, 2, -1), 3);
            due(x.chain(2), 28);
            due(x.guard(2, 8), 8);
            due(x.enough(5, 1, 3, 5, false) > 0, true);
            due(x.ring(-1), -1);
            due(x.without(255), 1);
            due(x.strike(0) > 0, true);
            due(x.fits(0), 28);
            due(x.forNobody(), 0);
            due(x.kept(0, 2), 28);
            due(state(x), ahead);
        });
        test("III", "The constants: `NONE = -1`: None.", () -> due(SleptFor.NONE, -1));
    }

    private static void foretold() {
        test("III", "FORETOLD for n HOURS (1 .. 60;", () -> {
            SleptFor x = new SleptFor();
            x.person(0, 0);
            x.work(99, 0);
            rule(x, "burn 0;");
            x.wake(0, 0);
            due(x.foretoldDone(1, 0), 1);
            due(x.foretoldDone(60, 0), 60);
            refused(x, -1, () -> x.foretoldDone(0, 0), () -> x.foretoldDone(61, 0), () -> x.foretoldDone(-1, 0), () -> x.foretoldDone(HIGH, 0));
            x.hour(60);
            due(x.foretoldDone(60, 0), 99); // NEEDS at most, then as well
        });
        test("III", "999 doesn't bound it;", () -> {
            SleptFor x = rule(plain(1, 1), "burn if now<1003 then 0 else 99 end;");
            for (int i = 0; i < 27; i++) x.hour(37);
            x.wake(0, 0);
            due(x.foretoldDone(60, 0), 4); // HOURS 999 to 1002
            due(x.foretoldDone(3, 0), 3);
            due(x.foretoldStop(60, 0), 5);
            due(x.foretoldStop(5, 0), 5);
            due(x.foretoldStop(4, 0), -1);
            due(x.about(2), 999);
        });
        test("III", "draws from X as now), nothing being done by hand: DONE of a WORK then;", () -> {
            SleptFor x = free(4, 2);
            rule(x, "worth dream;burn 7;");
            for (int begin = 0; begin < 12; begin++) {
                if (x.of(0, 2) == 0) x.wake(0, begin % 2);
                allSleep(x, 1, 0);
                int[] done = new int[2];
                for (int w = 0; w < 2; w++) done[w] = x.foretoldDone(5, w);
                x.hour(5);
                for (int w = 0; w < 2; w++) due(x.ofWork(w, 2), done[w]);
            }
        });
        test("III", "in how many HOURS a PERSON first STOPS (1: in the next one; none).", () -> {
            SleptFor x = rule(free(3, 1), "burn if on<59 then 0 else 99 end;");
            x.wake(0, 0);
            due(x.foretoldStop(60, 0), 60);
            due(x.foretoldStop(59, 0), -1);
            x.hour(58);
            due(x.foretoldStop(60, 0), 2);
            x.hour(1);
            due(x.foretoldStop(60, 0), 1);
            due(x.foretoldStop(1, 0), 1);
            x.hour(1);
            due(x.foretoldStop(60, 0), -1); // IDLE it never does
            x.sleep(1, 0);
            due(x.foretoldStop(60, 1), -1);
            // WOKEN ones don't sleep for it any more
            x = folk(0, 10);
            x.work(9, 2);
            x.may(1, 0);
            x.hears(0, 1);
            x.wake(0, 0);
            x.sleep(1, 0);
            due(x.foretoldStop(60, 0), 2);
            due(x.foretoldDone(60, 0), 1);
        });
    }

    private static void sets() {
        test("III", "WHO SLEEPS FOR WHOM: wakers (a set of 1 to 4),", () -> {
            SleptFor x = rule(free(8, 1), "burn 0;"); // so that none need sleep
            due(x.match(1, 0, 192, false, -1), 0);
            due(x.match(15, 0, 192, false, -1), 0);
            due(x.match(0b111100, 0, 192, false, -1), 0);
            refused(x, -1, () -> x.match(0, 0, 192, false, -1), () -> x.match(31, 0, 192, false, -1), () -> x.match(63, 0, 192, false, -1));
            x.by(-1);
            due(x.match(15, 0, 0b11110000, false, -1), 4);
            dueWhom(x, 15, 0b11110000, false, 0, 1, 2, 3);
            dueWhom(x, 0b11110000, 0b1111, true, 4, 5, 6, 7);
        });
        test("III", "each as if it were AWAKE at a told WORK (ON 0),", () -> {
            SleptFor x = folk(0, 0, 0, 0, 0, 0, 0);
            x.work(9, 1);
            x.work(9, 6);
            allMay(x);
            rule(x, "burn if on>1 then 99 else noise+task+on*50 end;worth 2;");
            allSleep(x, 1, 0);
            x.wake(0, 0);
            x.hour(1);
            for (int i = 0; i < 3; i++) { // AWAKE at another WORK, IDLE, ASLEEP
                due(x.match(1, 1, 0b1111100, false, -1), 4);
                due(x.match(1, 0, 0b1111100, false, -1), 1);
                if (i == 0) x.idle(0);
                else x.sleep(0, 1);
            }
            due(x.match(1, 2, 0b1111100, false, -1), -1);
        });
        test("III", "sleepers (a set of 1 to 6, none of them a waker):", () -> {
            SleptFor x = rule(free(8, 1), "burn 0;");
            due(x.match(1, 0, 2, false, -1), 0);
            due(x.match(1, 0, 0b1111110, false, -1), 0);
            due(x.match(2, 0, 0b11111100, false, -1), 0);
            refused(x, -1, () -> x.match(1, 0, 0, false, -1), () -> x.match(1, 0, 0b11111110, false, -1), () -> x.match(1, 0, 1, false, -1),
                () -> x.match(3, 0, 6, false, -1), () -> x.match(1, 0, 129, false, -1));
        });
        test("III", "each sleeps for one waker it MAY sleep for, or for none (DREAM 0, ON 0),", () -> {
            SleptFor x = plain(5, 1);
            x.may(2, 0);
            x.may(2, 1);
            x.may(3, 0);
            due(x.match(3, 0, 4, false, -1), -1); // it sleeps for one, not for both
            due(x.match(2, 0, 8, false, -1), -1); // it may not
            due(x.match(3, 0, 12, false, 2), 1);
            due(x.match(3, 0, 12, false, 3), 0);
            due(x.match(1, 0, 28, false, 4), 8);
            rule(x, "worth 10-dream-on;");
            x.sleep(2, 0);
            x.sleep(3, 0);
            x.hour(1);
            due(x.of(2, 10), 6); // DREAM 3, ON 1
            due(x.match(1, 0, 4, false, -1), 1); // here it is 10
        });
        test("III", "such that for each waker FUEL is burn at least:", () -> {
            int[] fewest = {0, 1, 1, 2, 3, 3, 4, -1};
            int[] burns = {0, 1, 5, 10, 11, 15, 20, 21};
            for (int i = 0; i < burns.length; i++) {
                SleptFor x = rule(free(6, 1), "worth 5;burn if who=0 then " + burns[i] + " else 0 end;");
                due(x.match(1, 0, 60, false, -1), fewest[i]);
                due(x.match(3, 0, 60, false, -1), fewest[i]);
            }
        });
    }

    private static void dueWhom(SleptFor x, int wakers, int sleepers, boolean dear, int... whom) {
        int at = 0;
        for (int s = 0; s < 8; s++) if ((sleepers >> s & 1) == 1) due(x.match(wakers, 0, sleepers, dear, s), whom[at++]);
    }

    private static void pairs() {
        test("III", "with the fewest that sleep", () -> {
            SleptFor x = rule(free(7, 1), "worth who;burn 9;");
            due(x.match(1, 0, 0b0111100, false, -1), 2); // 4 and 5, not 2, 3 and 4
            dueWhom(x, 1, 0b0111100, false, 8, 8, 0, 0);
            x = rule(free(7, 1), "worth who;burn if who=0 then 6 else 7 end;");
            due(x.match(3, 0, 0b1111100, false, -1), 3); // 6 for 0; 2 and 5 for 1
            dueWhom(x, 3, 0b1111100, false, 1, 8, 8, 1, 0);
        });
        test("III", "(or, dear: with the least price of all together, of like ones with the fewest);", () -> {
            SleptFor x = rule(free(6, 1), "worth if who<4 then 5 else 10 end;price if who<4 then 1 else 2 end;");
            due(x.match(1, 0, 0b011100, true, -1), 2); // 2 and 3 cost as much as 4 alone
            dueWhom(x, 1, 0b011100, true, 8, 8, 0);
            x = rule(free(6, 1), "worth if who<4 then 5 else 10 end;price if who<4 then 1 else 3 end;");
            due(x.match(1, 0, 0b011100, true, -1), 2); // two that are cheaper than one
            dueWhom(x, 1, 0b011100, true, 0, 0, 8);
            due(x.match(1, 0, 0b011100, false, -1), 1);
            x = rule(free(6, 1), "price 0;");
            due(x.match(3, 0, 0b111100, true, -1), 0);
            dueWhom(x, 3, 0b111100, true, 0, 1, 8, 8); // for nothing, and no more than need be
            x = rule(free(6, 1), "price 0;worth who;burn 9;");
            due(x.match(1, 0, 0b111100, true, -1), 0);
            dueWhom(x, 1, 0b111100, true, 8, 8, 0, 0);
            x = rule(free(6, 1), "price 999;worth 2;");
            due(x.match(1, 0, 0b111110, true, -1), 4995);
        });
        test("III", "how many sleep (price), for whom one does; none:", () -> {
            SleptFor x = rule(free(3, 1), "price 7;");
            due(x.match(1, 0, 6, false, -1), 1);
            due(x.match(1, 0, 6, true, -1), 7);
            due(x.match(1, 0, 6, true, 1), 0);
            due(x.match(1, 0, 6, true, 2), 8);
            rule(x, "burn 21;");
            due(x.match(1, 0, 6, false, -1), -1);
            due(x.match(1, 0, 6, true, -1), -1);
            due(x.match(1, 0, 6, true, 1), -1);
        });
    }

    private static void likeOnes() {
        test("III", "of like ones the lowest waker for the lowest sleeper (for none is behind all), then for the next, ..:", () -> {
            SleptFor x = free(7, 1);
            dueWhom(x, 3, 0b1111100, false, 0, 1, 8, 8, 8);
            dueWhom(x, 0b1100000, 0b0011111, false, 5, 6, 8, 8, 8);
            dueWhom(x, 0b1000001, 0b0111110, true, 0, 6, 8, 8, 8);
            x = rule(free(7, 1), "burn 20;");
            dueWhom(x, 3, 0b1111100, false, 0, 0, 1, 1, 8);
            x = plain(7, 1);
            x.may(2, 1);
            for (int s = 3; s < 7; s++) x.may(s, 0);
            x.may(6, 1);
            dueWhom(x, 3, 0b1111100, false, 1, 0, 8, 8, 8);
            dueWhom(x, 3, 0b1100000, false, 0, 1);
            x.may(2, 0);
            dueWhom(x, 3, 0b0001100, false, 1, 0); // 3 may just for 0, so 2 does for 1
            dueWhom(x, 3, 0b1000100, false, 0, 1);
            // the first sleeper counts before the second: 2 alone would hold 1, but 2 for 0 comes first
            x = rule(free(5, 1), "worth if who=2 then 10 else if whom=1 then 10 else 5 end end;burn 10;");
            dueWhom(x, 3, 0b11100, false, 0, 1, 8);
        });
    }

    private static void cannot() {
        test("III", "WHO CAN'T: the lowest set (bits) of wakers for whom burns together are above the worth of all sleepers that MAY sleep for one of them at least,", () -> {
            SleptFor x = plain(7, 1);
            x.may(4, 0);
            x.may(4, 1);
            x.may(5, 1);
            x.may(4, 2);
            due(x.whoCannot(7, 0, 0b0110000), 5); // 0 and 2 have just 4
            due(x.whoCannot(3, 0, 0b0110000), -1);
            due(x.whoCannot(6, 0, 0b0110000), -1);
            due(x.whoCannot(7, 0, 0b0100000), 1);
            due(x.whoCannot(6, 0, 0b0010000), 6);
            due(x.whoCannot(15, 0, 0b1110000), 5); // lower than 3 alone, who has nobody
            due(x.whoCannot(8, 0, 0b1110000), 8);
            due(x.whoCannot(10, 0, 0b1110000), 8);
            rule(x, "burn 11;");
            due(x.whoCannot(1, 0, 0b0010000), 1);
            rule(x, "burn 0;");
            due(x.whoCannot(15, 0, 0b1110000), -1); // 0 isn't above 0
            rule(x, "burn 1;");
            due(x.whoCannot(9, 0, 0b1110000), 8); // those that may not are worth nothing
            x = free(8, 1);
            due(x.whoCannot(15, 0, 0b11110000), -1);
            due(x.whoCannot(15, 0, 0b01110000), 15);
            rule(x, "burn if who=3 then 41 else 0 end;");
            due(x.whoCannot(15, 0, 0b11110000), 8);
        });
        test("III", "each by its greatest worth for one of them; none.", () -> {
            SleptFor x = rule(free(4, 1), "worth if whom=2 then 25 else 10 end;burn 10;");
            due(x.whoCannot(5, 0, 8), -1); // 25 hold 20, though it can't be for both
            due(x.match(5, 0, 8, false, -1), -1);
            due(x.whoCannot(3, 0, 8), 3);
            due(x.whoCannot(7, 0, 8), 3); // lower than all three
            // its greatest worth for those that it MAY sleep for
            x = plain(4, 1);
            x.may(2, 0);
            x.may(3, 0);
            x.may(3, 1);
            rule(x, "worth if who=2 then whom*45+5 else 10 end;burn 15-who*5;");
            due(x.whoCannot(1, 0, 12), -1);
            due(x.whoCannot(2, 0, 12), -1);
            due(x.whoCannot(3, 0, 12), 3);
            // DREAM 0, ON 0
            x = rule(free(2, 1), "worth 10-dream-on;");
            x.sleep(1, 0);
            x.hour(1);
            due(x.whoCannot(1, 0, 2), -1);
        });
    }

    private static void behind() {
        test("III", "BEHIND one: TIER 1: all that MAY sleep for it;", () -> {
            SleptFor x = plain(8, 0);
            for (int p = 1; p < 8; p++) x.may(p, 0);
            due(x.behind(0, -1), 7);
            for (int p = 1; p < 8; p++) due(x.behind(0, p), 1);
            due(x.behind(1, 0), -1); // the other way it isn't so
        });
        test("III", "TIER k more: all others that MAY sleep for one of the last TIER, and are in none yet (it itself is in TIER 0):", () -> {
            SleptFor x = plain(8, 0);
            for (int p = 0; p < 7; p++) x.may(p, p + 1);
            for (int p = 0; p < 8; p++) due(x.behind(7, p), 7 - p);
            x.may(7, 0); // it itself comes again, and stays in TIER 0
            due(x.behind(7, 7), 0);
            due(x.behind(7, -1), 7);
            x.may(2, 7); // and a shorter way
            x.may(1, 5);
            int[] tiers = {3, 2, 1, 4, 3, 2, 1, 0};
            for (int p = 0; p < 8; p++) due(x.behind(7, p), tiers[p]);
        });
        test("III", "how many are in all TIERS but 0, in which one is; none.", () -> {
            SleptFor x = plain(5, 0);
            due(x.behind(0, -1), 0);
            due(x.behind(0, 0), 0);
            due(x.behind(0, 1), -1);
            x.may(1, 0);
            x.may(3, 1);
            due(x.behind(0, -1), 2);
            due(x.behind(0, 3), 2);
            due(x.behind(0, 2), -1);
            due(x.behind(1, -1), 1);
        });
    }

    private static void valley() {
        test("III", "A VALLEY that holds itself: n PEOPLE each AWAKE a HOURS a day (1 .. 23) of 24:", () -> {
            SleptFor x = new SleptFor();
            due(x.valley(1, 10), 2);
            due(x.valley(12, 10), 2); // one by one, twelve HOURS each
            due(x.valley(13, 10), -1);
            due(x.valley(22, 99), -1);
            due(x.valley(23, 99), -1);
            refused(x, -1, () -> x.valley(0, 10), () -> x.valley(24, 10), () -> x.valley(-1, 10));
        });
        test("III", "in each HOUR so many are AWAKE that those others, each worth v tenths (1 .. 99), are worth ten tenths for each AWAKE one:", () -> {
            SleptFor x = new SleptFor();
            due(x.valley(1, 1), 11); // ten others
            due(x.valley(1, 9), 3);
            due(x.valley(1, 5), 3); // two others, ten tenths
            due(x.valley(1, 4), 4);
            due(x.valley(16, 20), 3); // one sleeps for two: 48 HOURS of 48
            due(x.valley(15, 19), 8); // 3 times 19 hold five: 120 HOURS of 120
            refused(x, -1, () -> x.valley(1, 0), () -> x.valley(1, 100), () -> x.valley(1, -1));
        });
        test("III", "the fewest n (2 .. 99) by which in 24 HOURS so many HOURS can be had; none.", () -> {
            SleptFor x = new SleptFor();
            due(x.valley(1, 99), 2); // one alone never
            due(x.valley(2, 1), 11); // 22 of 24
            due(x.valley(3, 1), -1); // 11 have 24 of 33, 22 have 48 of 66, ..
            due(x.valley(19, 38), 24); // 19 of 24 at once, 456 of 456; none of less
            due(x.valley(21, 98), 8); // 7 of 8 at once
        });
    }

    private static void dueRota(SleptFor x, int people, int e, int r, int... who) {
        int changes = 0;
        for (int i = 1; i < who.length; i++) changes += who[i] != who[i - 1] ? 1 : 0;
        due(x.rota(who.length, people, e, r, -1), changes);
        for (int i = 0; i < who.length; i++) due(x.rota(who.length, people, e, r, i), who[i]);
    }

    private static void rotas() {
        test("III", "A ROTA for n HOURS (1 .. 8) of a set of 1 to 4 PEOPLE: one sleeps in each HOUR;", () -> {
            SleptFor x = plain(8, 0);
            dueRota(x, 128, 1, 8, 7);
            dueRota(x, 128, 8, 8, 7, 7, 7, 7, 7, 7, 7, 7);
            dueRota(x, 0b11110000, 2, 8, 4, 4, 5, 5, 6, 6, 7, 7);
            refused(x, -1, () -> x.rota(0, 3, 8, 0, -1), () -> x.rota(9, 3, 8, 0, -1), () -> x.rota(1, 0, 8, 0, -1), () -> x.rota(1, 31, 8, 0, -1));
        });
        test("III", "each e HOURS on end at most (1 .. 8), and then doesn't for r HOURS at least (0 .. 8;", () -> {
            SleptFor x = plain(4, 0);
            dueRota(x, 3, 1, 1, 0, 1, 0, 1);
            dueRota(x, 3, 2, 2, 0, 0, 1, 1, 0);
            due(x.rota(5, 3, 2, 3, -1), -1); // none is rested in the fifth
            dueRota(x, 7, 2, 3, 0, 0, 1, 1, 2);
            dueRota(x, 7, 1, 2, 0, 1, 2, 0, 1, 2, 0, 1);
            due(x.rota(4, 7, 1, 3, -1), -1);
            dueRota(x, 15, 1, 3, 0, 1, 2, 3, 0, 1, 2, 3);
            dueRota(x, 3, 8, 0, 0, 0, 0, 0, 0, 0, 0, 0);
            dueRota(x, 3, 7, 8, 0, 0, 0, 0, 0, 0, 0, 1);
            refused(x, -1, () -> x.rota(1, 3, 0, 0, -1), () -> x.rota(1, 3, 9, 0, -1), () -> x.rota(1, 3, 1, -1, -1), () -> x.rota(1, 3, 1, 9, -1));
        });
        test("III", "(0 .. 8; also if it was less than e;", () -> {
            SleptFor x = plain(4, 0);
            due(x.rota(5, 3, 2, 3, -1), -1); // 0 1 1 0 0 would be one, if the first 0 needn't rest
            due(x.rota(7, 3, 3, 4, -1), -1);
            dueRota(x, 7, 3, 4, 0, 0, 0, 1, 1, 1, 2);
        });
        test("III", "ahead of the first HOUR all are rested;", () -> {
            SleptFor x = plain(4, 0);
            dueRota(x, 15, 1, 8, 0, 1, 2, 3);
            dueRota(x, 8, 3, 8, 3, 3, 3);
        });
        test("III", "by r 0 and e used up it can't go on itself):", () -> {
            SleptFor x = plain(4, 0);
            due(x.rota(2, 1, 1, 0, -1), -1);
            due(x.rota(4, 8, 3, 0, -1), -1);
            dueRota(x, 8, 3, 0, 3, 3, 3);
            dueRota(x, 3, 2, 0, 0, 0, 1, 0, 0);
        });
    }

    private static void rotasOfLikeOnes() {
        test("III", "the fewest changes; of like ones the lowest PERSON in the first HOUR, then the second, ..:", () -> {
            SleptFor x = plain(6, 0);
            dueRota(x, 0b101010, 2, 1, 1, 1, 3, 3);
            dueRota(x, 3, 3, 1, 0, 0, 0, 1); // ahead of 0 0 1 1
            dueRota(x, 3, 3, 2, 0, 0, 0, 1, 1); // one change, 0 0 0 1 0 would be two
            dueRota(x, 3, 3, 3, 0, 0, 0, 1, 1, 1, 0);
            dueRota(x, 3, 3, 2, 0, 0, 0, 1, 1, 0, 0, 0);
            dueRota(x, 7, 3, 2, 0, 0, 0, 1, 1, 0, 0, 0);
            Model slow = new Model(); // goes through all of them
            for (int i = 0; i < 4; i++) slow.person(0, 0);
            for (int people : new int[] {1, 5, 11, 15}) {
                for (int e = 1; e < 6; e++) for (int r = 0; r < 6; r++) sameRotas(slow, people, e, r);
            }
        });
        test("III", "how many changes, who in an HOUR; none.", () -> {
            SleptFor x = plain(4, 0);
            due(x.rota(4, 3, 2, 1, -1), 1);
            int[] who = {0, 0, 1, 1};
            for (int i = 0; i < 4; i++) due(x.rota(4, 3, 2, 1, i), who[i]);
            due(x.rota(3, 1, 2, 1, -1), -1);
            due(x.rota(3, 1, 2, 1, 0), -1);
        });
    }

    private static void sameRotas(Model slow, int people, int e, int r) {
        SleptFor x = plain(4, 0);
        for (int n = 1; n <= 7; n++) {
            for (int hour = -1; hour < n; hour++) due(x.rota(n, people, e, r, hour), slow.rota(n, people, e, r, hour));
        }
    }

    private static void chains() {
        test("III", "CHAIN of a PERSON that is ASLEEP: who would be WOKEN, if it were CALLED (bits, it too).", () -> {
            SleptFor x = folk(0, 45, 49, 50, 99);
            allMay(x);
            for (int p = 0; p < 4; p++) x.hears(p, p + 1);
            for (int p = 0; p < 5; p++) x.sleep(p, (p + 1) % 5);
            int[] chains = {1, 15, 15, 8, 24}; // 9 is above 5 but not above 9, 5 above 4, and 0 above none
            for (int p = 0; p < 5; p++) due(x.chain(p), chains[p]);
            due(x.about(8), 31);
            rule(x, "sound 8;"); // what it was asked ahead of that counts no more
            int[] deeper = {1, 2, 14, 8, 24};
            for (int p = 0; p < 5; p++) due(x.chain(p), deeper[p]);
            rule(x, "sound 9;");
            for (int p = 0; p < 5; p++) due(x.chain(p), 1 << p);
        });
        test("III", "GUARD: of a PERSON that is ASLEEP and a set of others: the fewest PEOPLE that are ASLEEP (not it) to be guarded, that is not WOKEN by others, such that none of the set is WOKEN, if it is CALLED;", () -> {
            SleptFor x = guarded();
            due(x.guard(0, 0b011000), 8); // 3 keeps 4 as well
            due(x.guard(0, 0b100000), 0); // 5 sleeps too sound
            due(x.guard(4, 0b000111), 8);
            due(x.guard(0, 0b011110), 6);
            due(x.guard(0, 0b111110), 6);
            x.idle(3); // who isn't ASLEEP isn't WOKEN, and can't be guarded
            due(x.guard(0, 0b011000), 0);
            due(x.guard(0, 0b001000), 0);
            due(x.guard(4, 0b000111), 0);
        });
        test("III", "of like ones the lowest set; (those of the set can be guarded).", () -> {
            SleptFor x = guarded();
            due(x.guard(0, 0b010000), 8); // 3 alone, or 4 alone
            due(x.guard(3, 0b010000), 16);
            due(x.guard(0, 0b000010), 2);
            due(x.guard(0, 0b001110), 6);
            due(x.guard(4, 0b000001), 1); // 0 alone; 3 alone is higher
        });
    }

    /** All ASLEEP: 0 wakes 1 and 2, each of them 3, 3 wakes 4, and all of it backwards; 5 sleeps too sound. */
    private static SleptFor guarded() {
        SleptFor x = folk(9, 45, 45, 45, 45, 99);
        x.hears(0, 1);
        x.hears(0, 2);
        x.hears(1, 3);
        x.hears(2, 3);
        x.hears(3, 4);
        x.hears(0, 5);
        allMay(x);
        for (int p = 0; p < 6; p++) x.sleep(p, (p + 1) % 6);
        return x;
    }

    private static void dueOdds(int k, int p, int n, int m, long upper, long lower) {
        SleptFor x = new SleptFor();
        due(x.enough(k, p, n, m, false), upper);
        due(x.enough(k, p, n, m, true), lower);
    }

    private static void enough() {
        test("III", "ENOUGH: k sleepers (1 .. 5), each WOKEN in each HOUR with p out of 10 (0 .. 10), n HOURS (0 .. 15; k times n 15 at most):", () -> {
            dueOdds(1, 1, 1, 1, 9, 10);
            dueOdds(5, 0, 3, 5, 1, 1); // p 0: all sleep on
            dueOdds(1, 10, 1, 1, 0, 1); // p 10: none
            dueOdds(1, 10, 0, 1, 1, 1); // but for no HOURS
            dueOdds(5, 10, 0, 5, 1, 1);
            dueOdds(1, 1, 15, 1, 205891132094649L, 1000000000000000L); // 9 to the 15th
            dueOdds(5, 1, 3, 5, 205891132094649L, 1000000000000000L);
            dueOdds(3, 1, 5, 3, 205891132094649L, 1000000000000000L);
            SleptFor x = new SleptFor();
            refused(x, -1, () -> x.enough(0, 1, 1, 1, false), () -> x.enough(6, 1, 1, 1, false), () -> x.enough(1, -1, 1, 1, false),
                () -> x.enough(1, 11, 1, 1, false), () -> x.enough(1, 1, -1, 1, false), () -> x.enough(1, 1, 16, 1, false),
                () -> x.enough(2, 1, 8, 1, false), () -> x.enough(4, 1, 4, 1, false), () -> x.enough(5, 1, 858993460, 1, false));
        });
        test("III", "the ODDS that m of them at least (0 .. 5) sleep on behind them;", () -> {
            dueOdds(3, 5, 1, 0, 1, 1);
            dueOdds(3, 5, 1, 1, 7, 8);
            dueOdds(3, 5, 1, 2, 1, 2);
            dueOdds(3, 5, 1, 3, 1, 8);
            dueOdds(3, 5, 1, 4, 0, 1); // more than there are
            dueOdds(1, 0, 1, 5, 0, 1);
            dueOdds(5, 5, 1, 3, 1, 2);
            dueOdds(1, 2, 2, 1, 16, 25); // in both HOURS
            dueOdds(2, 1, 2, 1, 9639, 10000);
            SleptFor x = new SleptFor();
            refused(x, -1, () -> x.enough(1, 1, 1, -1, false), () -> x.enough(1, 1, 1, 6, false));
        });
        test("III", "in lowest terms.", () -> {
            dueOdds(1, 5, 1, 1, 1, 2);
            dueOdds(1, 5, 15, 1, 1, 32768);
            dueOdds(1, 10, 15, 1, 0, 1);
            dueOdds(1, 0, 15, 1, 1, 1);
            dueOdds(1, 4, 1, 1, 3, 5);
        });
    }

    /** One comes to OWE another one so many naps. */
    private static void owe(SleptFor x, int who, int whom, int naps) {
        x.wake(who, 0);
        x.sleep(whom, who);
        x.hour(naps);
        x.idle(who);
        x.idle(whom);
    }

    private static void dueRing(SleptFor x, int least, int... ring) {
        due(x.ring(-1), ring.length == 0 ? -1 : ring.length);
        due(x.ring(-2), least);
        for (int i = 0; i < ring.length; i++) due(x.ring(i), ring[i]);
        due(x.ring(ring.length), -1);
    }

    private static void rings() {
        test("III", "A RING of naps: PEOPLE each of whom OWES the next one, the last one the first (two or more, each once): the one of fewest;", () -> {
            SleptFor x = free(8, 1);
            dueRing(x, -1);
            int[] eight = {0, 7, 1, 6, 2, 5, 3, 4};
            for (int i = 0; i < 7; i++) owe(x, eight[i], eight[i + 1], 1);
            dueRing(x, -1); // it isn't closed
            owe(x, 4, 0, 1);
            dueRing(x, 1, eight);
            owe(x, 2, 0, 1);
            dueRing(x, 1, 0, 7, 1, 6, 2);
            owe(x, 6, 0, 1);
            dueRing(x, 1, 0, 7, 1, 6);
            owe(x, 4, 3, 1); // two are a RING
            dueRing(x, 1, 3, 4);
            x.repay(4, 3, 1);
            dueRing(x, 1, 0, 7, 1, 6);
        });
        test("III", "of like ones that with the lowest first one (its lowest), then second, ..:", () -> {
            SleptFor x = free(8, 1);
            owe(x, 6, 5, 1);
            owe(x, 5, 6, 1);
            dueRing(x, 1, 5, 6); // it begins with its lowest
            owe(x, 7, 2, 1);
            owe(x, 2, 7, 1);
            dueRing(x, 1, 2, 7);
            owe(x, 2, 4, 1);
            owe(x, 4, 2, 1);
            dueRing(x, 1, 2, 4);
            x = free(8, 1);
            int[][] rings = {{1, 7, 3}, {1, 6, 4}, {1, 6, 2}, {0, 7, 6}}; // each ahead of those before it
            for (int[] ring : rings) {
                for (int i = 0; i < 3; i++) owe(x, ring[i], ring[(i + 1) % 3], 1);
                dueRing(x, 1, ring);
            }
        });
        test("III", "how many, the i-th, the least that is owed around it; none.", () -> {
            SleptFor x = free(4, 1);
            owe(x, 1, 3, 4);
            owe(x, 3, 2, 2);
            due(x.ring(-1), -1);
            due(x.ring(0), -1);
            due(x.ring(-2), -1);
            owe(x, 2, 1, 3);
            dueRing(x, 2, 1, 3, 2);
            owe(x, 1, 3, 60);
            owe(x, 1, 3, 60);
            owe(x, 3, 1, 60);
            owe(x, 3, 1, 60);
            dueRing(x, 99, 1, 3);
        });
    }

    private static void strikes() {
        test("III", "WITHOUT some that are ASLEEP (a set, others in it aside): which of those AWAKE would STOP in the next HOUR (bits; DREAM 0 for all).", () -> {
            SleptFor x = rule(free(8, 1), "worth who+dream*20;burn 9+on;");
            x.wake(0, 0);
            x.wake(1, 0);
            allSleep(x, 2, 0);
            x.idle(6);
            x.sleep(6, 1);
            due(x.without(0), 2); // 2 + 3 + 4 + 5 + 7 for 0, and 6 for 1 are below 9
            due(x.without(128 + 32), 2); // 9 are left
            due(x.without(128 + 32 + 4), 3);
            due(x.without(64), 2);
            due(x.without(255), 3);
            due(x.without(3), 2); // those that are AWAKE aside
            x.hour(1);
            due(x.of(0, 4), 1);
            due(x.of(6, 5), 9);
            due(x.of(1, 11), 99); // by DREAMS
            due(x.without(0), 2); // DREAM 0
            due(x.without(128 + 32), 3); // 10 is what 0 burns by ON 1
        });
        test("III", "(a set, others in it aside)", () -> {
            SleptFor x = free(3, 1);
            x.wake(0, 0);
            x.sleep(1, 0);
            due(x.without(0b11111101), 0); // IDLE ones, AWAKE ones, and those that aren't told
            due(x.without(2), 1);
            due(new SleptFor().without(255), 0);
        });
        test("III", "STRIKE against one that is AWAKE: the fewest that are ASLEEP without whom it would STOP; of like ones the lowest set (none, 0, if it would anyhow); none.", () -> {
            SleptFor x = rule(free(8, 1), "worth who+dream*20;burn 9;");
            x.wake(0, 0);
            x.wake(1, 0);
            allSleep(x, 2, 0);
            x.idle(6);
            x.sleep(6, 1);
            // 2 + 3 + 4 + 5 + 7 is 21: 13 at least must be gone
            due(x.strike(0), 128 + 16 + 4);
            due(x.strike(1), 0);
            x.hour(1);
            due(x.strike(0), 128 + 16 + 4); // DREAM 0 for all
            rule(x, "worth 9;burn 10;");
            due(x.strike(0), 4 + 8 + 16 + 32); // one alone is left: the lowest four are gone
            rule(x, "worth 10;burn 10;");
            due(x.strike(0), 4 + 8 + 16 + 32 + 128);
            x.idle(1);
            due(x.without(0), 0);
        });
        test("III", "(none, 0, if it would anyhow); none.", () -> {
            SleptFor x = rule(free(3, 1), "burn 0;");
            x.wake(0, 0);
            due(x.strike(0), -1); // it never would
            x.sleep(1, 0);
            due(x.strike(0), -1);
            rule(x, "burn 11;");
            due(x.strike(0), 0);
            rule(x, "burn 10;");
            due(x.strike(0), 2);
        });
    }

    private static void kept() {
        test("III", "KEPT (the latest 60 HOURS): who RAN, STOPPED, was ASLEEP in an HOUR.", () -> {
            SleptFor x = free(3, 1);
            x.wake(0, 0);
            x.sleep(1, 0);
            x.wake(2, 0);
            x.hour(60);
            for (int hour : new int[] {0, 1, 59}) {
                due(x.kept(hour, 0), 1);
                due(x.kept(hour, 1), hour == 0 ? 4 : 0);
                due(x.kept(hour, 2), 2);
            }
            due(x.kept(60, 0), -1);
            x.hour(1);
            due(x.kept(0, 0), -1);
            due(x.kept(1, 0), 1);
            due(x.kept(60, 0), 1);
            for (int i = 0; i < 23; i++) x.hour(40);
            x.hour(18);
            due(x.about(2), 999);
            due(x.kept(938, 0), -1);
            due(x.kept(939, 0), 1);
            due(x.kept(998, 0), 1);
            due(x.kept(999, 0), -1);
        });
        test("III", "FITS one: who was ASLEEP in each KEPT HOUR in which it RAN, and in none in which it STOPPED", () -> {
            SleptFor x = free(5, 1);
            x.wake(0, 0);
            x.sleep(1, 0);
            x.sleep(2, 3);
            x.sleep(4, 3);
            x.hour(1);
            due(x.fits(0), 2 + 4 + 16); // whomever they sleep for
            x.idle(4);
            x.hour(1);
            due(x.fits(0), 2 + 4);
            x.idle(1);
            x.hour(1); // it STOPS, 2 is ASLEEP
            due(x.fits(0), 2);
            x.hour(57);
            due(x.fits(0), 2); // all 60 are KEPT
            x.hour(1);
            due(x.fits(0), 2); // HOUR 1 says so yet
            x.wake(4, 0);
            x.hour(1); // just HOUR 2, in which it STOPPED, is left; now 4 STOPS
            due(x.fits(0), 31 - 4);
            due(x.fits(4), 31 - 4);
        });
        test("III", "(bits; if it neither RAN nor STOPPED in any: none).", () -> {
            SleptFor x = free(3, 1);
            due(x.fits(0), -1);
            x.wake(0, 0);
            due(x.fits(0), -1);
            x.hour(1); // it STOPS, nobody is ASLEEP
            due(x.fits(0), 7);
            due(x.fits(1), -1);
            x.hour(59);
            due(x.fits(0), 7);
            x.hour(1);
            due(x.fits(0), -1); // it isn't KEPT any more
            rule(x, "burn 0;");
            x.wake(1, 0);
            x.hour(1);
            due(x.fits(1), 0); // it RAN, and none was ASLEEP
        });
        test("III", "FOR NOBODY: who is ASLEEP for one that isn't AWAKE (bits).", () -> {
            SleptFor x = free(8, 1);
            x.wake(0, 0);
            x.sleep(1, 0);
            x.sleep(2, 1); // for one that is ASLEEP
            x.sleep(7, 3); // for one that is IDLE
            due(x.forNobody(), 132);
            x.idle(0);
            due(x.forNobody(), 134);
        });
    }

    private static void image() {
        test("III", "AN IMAGE: all as it is, STEPS as well, but the tape and the latest FAULT;", () -> {
            SleptFor x = folk(15, 28);
            x.work(9, 0);
            x.may(1, 0);
            rule(x, "sound 7;");
            x.wake(0, 0);
            x.sleep(1, 0);
            x.hour(3);
            due(text(x, "worth owed;"), -1);
            x.image();
            String ahead = state(x);
            x.year(7, 30);
            x.person(1, 1);
            x.work(1, 1);
            x.may(0, 1);
            x.hears(0, 1);
            x.by(-1);
            due(text(x, "hour 0;"), -1);
            tape(x, "hour");
            for (int i = 0; i < 3; i++) x.undo();
            x.back();
            due(x.about(9), 4); // the tape stays
            due(x.fault(0), 2); // and the FAULT
            due(x.fault(1), 5);
            x.end(0);
            due(text(x, "worth owed;"), -1);
            due(state(x), ahead);
            due(x.of(0, 8), 7);
            for (int left = 4; left >= 0; left--) due(x.undo(), left);
            due(x.about(2), 0);
            due(x.undo(), -1);
        });
        test("III", "all as it is, STEPS as well,", () -> {
            for (int steps : new int[] {7, 30, 44}) {
                SleptFor x = plain(1, 0);
                int left = Math.min(steps, 30);
                x.hour(steps);
                x.image();
                for (int i = 0; i < 3; i++) {
                    x.undo();
                    x.hour(25 + i * 14); // other STEPS come where they were
                    x.back();
                    due(x.about(6), left);
                }
                for (int i = 1; i <= left; i++) {
                    due(x.undo(), left - i);
                    due(x.about(2), steps - i);
                }
                due(x.undo(), -1);
            }
        });
        test("III", "TEXTS told behind it are gone behind going back.", () -> {
            SleptFor x = plain(1, 0);
            rule(x, "sound 6;");
            x.image();
            rule(x, "sound 7;");
            due(text(x, "sound 8;"), 2);
            due(text(x, "hour 1;"), 3);
            x.back();
            due(x.about(4), 1);
            due(x.about(5), 0);
            due(x.of(0, 8), 6);
            due(x.by(1), false);
            due(x.played(3), -2);
            due(text(x, "sound 9;"), 1);
            due(x.of(0, 8), 6);
            due(x.by(1), true);
            due(x.of(0, 8), 9);
            x.back();
            due(x.of(0, 8), 6); // the TEXT told ahead of it is as it was
        });
    }
}
