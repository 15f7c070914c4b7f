/** The sentences of promises 20 to 41: what is asked, THE IMAGE, and what is refused. */
final class AskSentences extends Sentences {
    private AskSentences() {
    }

    static void all() {
        people();
        works();
        foretold();
        pairs();
        behind();
        rota();
        woken();
        odds();
        rings();
        without();
        fits();
        image();
        about();
    }

    /** 0 AWAKE at WORK 1 and 2 ASLEEP for it for two HOURS, 1 IDLE; laws that tell all apart. */
    private static SleptFor known() {
        SleptFor x = folk(15, 28, 64);
        x.work(7, 5);
        x.work(9, 6);
        x.may(2, 0);
        x.may(2, 1);
        x.hears(1, 2);
        rule(x, "worth 40+dream*2+on;burn noise*4+on;sound depth+on*10;");
        x.wake(0, 1);
        x.sleep(2, 0);
        due(x.hour(2), 2);
        return x;
    }

    private static void people() {
        test(20, "Of a PERSON: 0 DEPTH, 1 VOICE, 2 what it does (0 IDLE, 1 AWAKE, 2 ASLEEP), 3 its WORK, or for whom it sleeps (NONE), 4 ON, 5 DREAM, 6 for whom it MAY sleep (bits), 7 whom it HEARS (bits),", () -> {
            SleptFor x = known();
            int[][] all = {{1, 5, 1, 1, 2, 0, 0, 0}, {2, 8, 0, -1, 0, 0, 0, 4}, {6, 4, 2, 0, 2, 2, 3, 2}}; // DREAMS by 43, 10502
            for (int p = 0; p < 3; p++) for (int what = 0; what < 8; what++) due(x.of(p, what), all[p][what]);
        });
        test(20, "8 sound,", () -> {
            SleptFor x = known();
            int[] sounds = {21, 2, 26};
            for (int p = 0; p < 3; p++) due(x.of(p, 8), sounds[p]);
            x.by(-1);
            due(x.of(2, 8), 6);
        });
        test(20, "9 what it burns (NONE, if it isn't AWAKE),", () -> {
            SleptFor x = known();
            due(x.of(0, 9), 26);
            due(x.of(1, 9), -1);
            due(x.of(2, 9), -1);
        });
        test(20, "10 worth (NONE, if it isn't ASLEEP),", () -> {
            SleptFor x = known();
            due(x.of(0, 10), -1);
            due(x.of(1, 10), -1);
            due(x.of(2, 10), 46);
        });
        test(20, "11 FUEL as now (NONE, if it isn't AWAKE).", () -> {
            SleptFor x = known();
            due(x.of(0, 11), 46);
            due(x.of(1, 11), -1);
            due(x.of(2, 11), -1);
            x.idle(2);
            due(x.of(0, 11), 0);
            x.sleep(2, 1);
            due(x.of(0, 11), 0);
            x.idle(2);
            x.sleep(2, 0);
            due(x.of(0, 11), 44); // ON 0, and the DREAM that it has
        });
        test(20, "-2 for others.", () -> {
            SleptFor x = known();
            refused(x, -2, new int[] {LOW, -2, -1, 12, 13, 256, HIGH}, bad -> x.of(0, bad), bad -> x.of(2, bad));
            refused(x, -2, () -> x.of(3, 0), () -> x.of(3, 12), () -> x.of(7, 2));
            SleptFor y = known();
            for (int bad : NO_PERSON) for (int what = 0; what < 12; what++) due(y.of(bad, what), -2);
        });
    }

    private static void works() {
        test(21, "Of a WORK: 0 NEEDS, 1 NOISE, 2 DONE.", () -> {
            SleptFor x = known();
            int[][] all = {{7, 5, 0}, {9, 6, 2}};
            for (int w = 0; w < 2; w++) for (int what = 0; what < 3; what++) due(x.ofWork(w, what), all[w][what]);
        });
        test(21, "NONE for others.", () -> {
            SleptFor x = known();
            refused(x, -1, new int[] {LOW, -1, 3, 4, 256, HIGH}, bad -> x.ofWork(0, bad));
            refused(x, -1, new int[] {LOW, -2, -1, 2, 5, 6, 256, HIGH}, bad -> x.ofWork(bad, 0));
        });
        test(22, "OWES.", () -> {
            SleptFor x = known();
            for (int p = 0; p < 3; p++) for (int q = 0; q < 3; q++) due(x.owes(p, q), p == 0 && q == 2 ? 2 : 0);
        });
        test(22, "NONE for others (one itself: 0).", () -> {
            SleptFor x = known();
            for (int bad : NO_PERSON) due(x.owes(bad, 0), -1);
            for (int bad : NO_PERSON) due(x.owes(0, bad), -1);
            for (int bad : NO_PERSON) due(x.owes(bad, bad), -1); // itself, but not told
            due(x.owes(3, 0), -1);
            due(x.owes(0, 3), -1);
            due(x.owes(3, 3), -1);
            for (int p = 0; p < 3; p++) due(x.owes(p, p), 0);
        });
        test(23, "KEPT of an HOUR: 0 who RAN, 1 who STOPPED, 2 who was ASLEEP (bits).", () -> {
            SleptFor x = free(8, 1);
            x.wake(7, 0);
            x.wake(6, 0);
            x.sleep(0, 7);
            x.sleep(5, 7);
            x.hour(2);
            int[][] hours = {{128, 64, 33}, {128, 0, 33}};
            for (int hour = 0; hour < 2; hour++) for (int what = 0; what < 3; what++) due(x.kept(hour, what), hours[hour][what]);
        });
        test(23, "NONE for others, and if it isn't KEPT.", () -> {
            SleptFor x = known();
            refused(x, -1, new int[] {LOW, -1, 3, 4, 256, HIGH}, bad -> x.kept(0, bad));
            refused(x, -1, new int[] {LOW, -1, 2, 3, 999, 1000, HIGH}, bad -> x.kept(bad, 0), bad -> x.kept(bad, 2));
            x.hour(58);
            due(x.kept(0, 0), 1);
            x.hour(1);
            due(x.kept(0, 0), -1);
            due(x.kept(1, 0), 1);
            due(x.kept(60, 2), 4);
            due(x.kept(61, 2), -1);
        });
    }

    private static void foretold() {
        test(24, "FORETOLD: DONE of a WORK.", () -> {
            SleptFor x = known();
            due(x.foretoldDone(1, 1), 3);
            due(x.foretoldDone(5, 1), 7);
            due(x.foretoldDone(60, 1), 9);
            due(x.foretoldDone(60, 0), 0);
            due(x.ofWork(1, 2), 2);
        });
        test(24, "NONE for others.", () -> {
            SleptFor x = known();
            refused(x, -1, new int[] {LOW, -1, 0, 61, 62, HIGH}, bad -> x.foretoldDone(bad, 0));
            refused(x, -1, new int[] {LOW, -1, 2, 5, 6, HIGH}, bad -> x.foretoldDone(1, bad));
        });
        test(25, "FORETOLD: in how many HOURS a PERSON first STOPS.", () -> {
            SleptFor x = known();
            rule(x, "burn if on<5 then 0 else 99 end;");
            due(x.foretoldStop(60, 0), 4); // ON is 2 in the next one
            due(x.foretoldStop(4, 0), 4);
            x.hour(3);
            due(x.foretoldStop(1, 0), 1);
            due(x.about(7), 1);
            x = rule(free(8, 1), "burn if on<who then 0 else 99 end;");
            for (int p = 0; p < 8; p++) x.wake(p, 0);
            for (int p = 0; p < 8; p++) due(x.foretoldStop(60, p), p + 1);
        });
        test(25, "NONE: none, and for others.", () -> {
            SleptFor x = known();
            rule(x, "burn if on<5 then 0 else 99 end;");
            due(x.foretoldStop(3, 0), -1);
            due(x.foretoldStop(60, 1), -1);
            due(x.foretoldStop(60, 2), -1);
            refused(x, -1, new int[] {LOW, -1, 0, 61, HIGH}, bad -> x.foretoldStop(bad, 0));
            SleptFor y = known();
            rule(y, "burn 99;");
            refused(y, -1, NO_PERSON, bad -> y.foretoldStop(1, bad));
            refused(y, -1, () -> y.foretoldStop(1, 3));
            due(y.foretoldStop(1, 0), 1);
        });
    }

    private static void pairs() {
        test(26, "WHO SLEEPS FOR WHOM: how many sleep (sleeper NONE; dear: their price), for whom a sleeper does (8: for none).", () -> {
            SleptFor x = rule(free(8, 1), "price who;");
            due(x.match(3, 0, 0b11111100, false, -1), 2);
            due(x.match(3, 0, 0b11111100, true, SleptFor.NONE), 2 + 3);
            int[] whom = {0, 1, 8, 8, 8, 8};
            for (int s = 2; s < 8; s++) {
                due(x.match(3, 0, 0b11111100, false, s), whom[s - 2]);
                due(x.match(3, 0, 0b11111100, true, s), whom[s - 2]);
            }
            due(x.match(128, 0, 1, false, 0), 7);
        });
        test(26, "NONE: none,", () -> {
            SleptFor x = free(7, 1);
            due(x.match(3, 0, 12, false, -1), 2);
            refused(x, -1, () -> x.match(3, 0, 4, false, -1), () -> x.match(3, 0, 4, true, 2), () -> x.match(15, 0, 112, true, -1));
        });
        test(26, "and for others.", () -> {
            SleptFor x = rule(free(7, 1), "burn 0;");
            due(x.match(1, 0, 6, false, -1), 0);
            refused(x, -1, () -> x.match(1, 0, 6, false, 0), () -> x.match(1, 0, 6, false, 3), () -> x.match(1, 0, 6, true, 7), () -> x.match(1, 0, 6, false, 8),
                () -> x.match(1, 0, 6, false, -2), () -> x.match(1, 0, 6, false, 33), () -> x.match(1, 0, 6, false, LOW), () -> x.match(1, 0, 6, false, HIGH),
                () -> x.match(1, 1, 6, false, -1), () -> x.match(1, -1, 6, false, -1), () -> x.match(1, 6, 6, false, -1), () -> x.match(1, HIGH, 6, false, 1),
                () -> x.match(128, 0, 6, false, -1), () -> x.match(129, 0, 6, false, -1), () -> x.match(256, 0, 6, false, -1), () -> x.match(LOW, 0, 6, false, -1),
                () -> x.match(-1, 0, 6, false, -1), () -> x.match(1, 0, 128, false, -1), () -> x.match(1, 0, 130, false, 1), () -> x.match(1, 0, LOW, false, -1), () -> x.match(1, 0, -2, false, -1));
        });
        test(27, "WHO CAN'T (bits).", () -> {
            SleptFor x = plain(8, 1);
            x.may(0, 6);
            x.may(0, 7);
            due(x.whoCannot(192, 0, 1), 192);
            due(x.whoCannot(0b11100000, 0, 1), 32);
        });
        test(27, "NONE: none,", () -> {
            SleptFor x = free(7, 1);
            due(x.whoCannot(3, 0, 4), 3);
            refused(x, -1, () -> x.whoCannot(1, 0, 2), () -> x.whoCannot(3, 0, 12));
        });
        test(27, "and for others.", () -> {
            SleptFor x = rule(free(7, 1), "burn 99;");
            due(x.whoCannot(1, 0, 2), 1);
            refused(x, -1, () -> x.whoCannot(0, 0, 2), () -> x.whoCannot(1, 0, 0), () -> x.whoCannot(1, 0, 1), () -> x.whoCannot(3, 0, 6), () -> x.whoCannot(31, 0, 32),
                () -> x.whoCannot(1, 1, 2), () -> x.whoCannot(1, -1, 2), () -> x.whoCannot(1, HIGH, 2), () -> x.whoCannot(128, 0, 2), () -> x.whoCannot(1, 0, 128),
                () -> x.whoCannot(-1, 0, 2), () -> x.whoCannot(LOW, 0, 2), () -> x.whoCannot(1, 0, LOW), () -> x.whoCannot(257, 0, 2));
            SleptFor y = rule(free(8, 1), "burn 99;");
            refused(y, -1, () -> y.whoCannot(1, 0, 254));
            due(y.whoCannot(1, 0, 126), 1);
        });
    }

    private static void behind() {
        test(28, "BEHIND a PERSON: how many (other NONE), in which TIER another one is (itself: 0).", () -> {
            SleptFor x = plain(8, 0);
            x.may(7, 0);
            x.may(1, 7);
            x.may(0, 1);
            due(x.behind(0, SleptFor.NONE), 2);
            due(x.behind(0, 7), 1);
            due(x.behind(0, 1), 2);
            due(x.behind(0, 0), 0); // 0 MAY sleep for 1, and stays in TIER 0
            due(x.behind(5, 5), 0);
        });
        test(28, "NONE: none, and for others.", () -> {
            SleptFor x = free(3, 0);
            x.person(0, 0);
            refused(x, -1, () -> x.behind(0, 3), () -> x.behind(0, 4), () -> x.behind(4, 0), () -> x.behind(4, 4), () -> x.behind(-1, 0), () -> x.behind(-1, -1), () -> x.behind(4, -1));
            for (int bad : NO_PERSON) {
                due(x.behind(bad, 0), -1);
                due(x.behind(bad, -1), -1);
                if (bad != -1) due(x.behind(0, bad), -1);
            }
        });
        test(29, "A VALLEY: the fewest n.", () -> {
            SleptFor x = new SleptFor();
            due(x.valley(8, 10), 2);
            due(x.valley(16, 20), 3);
            due(x.valley(1, 3), 5);
            due(x.valley(1, 2), 6);
            due(x.valley(13, 13), 9); // of 9 five are AWAKE: 4 times 13 hold them; 120 HOURS of 117
        });
        test(29, "NONE: none, and for others.", () -> {
            SleptFor x = new SleptFor();
            due(x.valley(13, 10), -1);
            due(x.valley(3, 1), -1);
            refused(x, -1, new int[] {LOW, -1, 0, 24, 25, 256 + 1, HIGH}, bad -> x.valley(bad, 10));
            refused(x, -1, new int[] {LOW, -1, 0, 100, 101, 256 + 10, HIGH}, bad -> x.valley(1, bad));
        });
    }

    private static void rota() {
        test(30, "A ROTA: how many changes (hour NONE), who in an HOUR (0 .. n - 1).", () -> {
            int[] who = {5, 5, 7, 7, 5, 5, 7, 7};
            for (int n = 1; n <= 8; n++) {
                SleptFor x = plain(8, 0);
                int hours = n;
                due(x.rota(n, 160, 2, 2, SleptFor.NONE), (n - 1) / 2);
                for (int hour = 0; hour < n; hour++) due(x.rota(n, 160, 2, 2, hour), who[hour]);
                refused(x, -1, () -> x.rota(hours, 160, 2, 2, hours));
            }
        });
        test(30, "NONE: none,", () -> {
            SleptFor x = plain(2, 0);
            due(x.rota(5, 3, 2, 2, -1), 2);
            refused(x, -1, () -> x.rota(5, 3, 2, 3, -1), () -> x.rota(5, 3, 2, 3, 0), () -> x.rota(3, 1, 2, 1, 0));
        });
        test(30, "there is none such,", () -> {
            SleptFor x = plain(2, 0);
            due(x.rota(4, 3, 2, 1, 3), 1);
            refused(x, -1, () -> x.rota(4, 3, 2, 1, 4), () -> x.rota(4, 3, 2, 1, 8), () -> x.rota(4, 3, 2, 1, -2), () -> x.rota(4, 3, 2, 1, HIGH), () -> x.rota(4, 3, 2, 1, LOW));
        });
        test(30, "and for others.", () -> {
            SleptFor x = plain(5, 0);
            due(x.rota(2, 30, 2, 1, -1), 0);
            refused(x, -1, new int[] {LOW, -1, 0, 9, HIGH}, bad -> x.rota(bad, 3, 2, 1, -1), bad -> x.rota(bad, 3, 2, 1, 0), bad -> x.rota(2, 3, bad, 1, -1));
            refused(x, -1, new int[] {LOW, -1, 9, HIGH}, bad -> x.rota(2, 3, 2, bad, -1));
            refused(x, -1, new int[] {LOW, LOW + 3, -1, 0, 31, 32, 33, 64, 256 + 1, HIGH}, bad -> x.rota(2, bad, 2, 1, -1));
        });
    }

    private static void woken() {
        test(31, "CHAIN (bits).", () -> {
            SleptFor x = folk(9, 9, 9, 9, 9, 9, 9, 9);
            allMay(x);
            for (int p = 7; p > 2; p--) x.hears(p, p - 1);
            for (int p = 1; p < 8; p++) x.sleep(p, 0);
            due(x.chain(7), 0b11111100);
            due(x.chain(2), 0b11111100);
            due(x.chain(1), 2);
            due(x.about(8), 254);
            x.idle(5);
            due(x.chain(7), 192);
            due(x.chain(2), 28);
        });
        test(31, "NONE for others.", () -> {
            SleptFor x = free(4, 1);
            x.wake(0, 0);
            x.sleep(1, 0);
            refused(x, -1, () -> x.chain(0), () -> x.chain(2), () -> x.chain(4));
            refused(x, -1, NO_PERSON, bad -> x.chain(bad));
        });
        test(32, "GUARD (bits).", () -> {
            SleptFor x = folk(9, 9, 9, 9, 9, 9, 9, 9);
            allMay(x);
            for (int p = 0; p < 7; p++) x.hears(p, p + 1);
            for (int p = 0; p < 8; p++) x.sleep(p, (p + 1) % 8);
            due(x.guard(7, 1), 1); // one of 0 to 6: the lowest set is 0 itself
            due(x.guard(0, 128), 2);
            due(x.guard(3, 129), 1 | 16); // one on each side: 0 itself, and 4
            due(x.guard(3, 247), 4 | 16);
            due(x.about(8), 255);
        });
        test(32, "NONE for others (a set with it in it, an empty one).", () -> {
            SleptFor x = free(4, 1);
            allHear(x);
            x.wake(0, 0);
            x.sleep(1, 0);
            x.sleep(2, 0);
            due(x.guard(1, 4), 4);
            due(x.guard(1, 9), 0); // others of all kinds, none ASLEEP
            refused(x, -1, () -> x.guard(1, 2), () -> x.guard(1, 6), () -> x.guard(1, 15), () -> x.guard(1, 0));
            refused(x, -1, () -> x.guard(0, 4), () -> x.guard(3, 4), () -> x.guard(4, 4));
            refused(x, -1, new int[] {LOW, LOW + 4, -1, -3, 16, 20, 128, 256, 260, HIGH}, bad -> x.guard(1, bad));
            SleptFor y = free(2, 0);
            y.sleep(1, 0);
            refused(y, -1, NO_PERSON, bad -> y.guard(bad, 1));
        });
    }

    private static void odds() {
        test(33, "ENOUGH: the upper (low false), the lower one (low true).", () -> {
            SleptFor x = new SleptFor();
            due(x.enough(2, 5, 1, 1, false), 3);
            due(x.enough(2, 5, 1, 1, true), 4);
            due(x.enough(1, 1, 15, 1, true), 1000000000000000L);
        });
        test(33, "NONE for others.", () -> {
            SleptFor x = new SleptFor();
            refused(x, -1, new int[] {LOW, -1, 0, 6, 7, HIGH}, bad -> x.enough(bad, 5, 1, 1, false), bad -> x.enough(bad, 5, 0, 0, true));
            refused(x, -1, new int[] {LOW, -1, 11, 12, HIGH}, bad -> x.enough(1, bad, 1, 1, false), bad -> x.enough(1, bad, 0, 0, true));
            refused(x, -1, new int[] {LOW, -1, 16, 17, HIGH}, bad -> x.enough(1, 5, bad, 1, false), bad -> x.enough(1, 0, bad, 0, true));
            refused(x, -1, new int[] {LOW, -1, 6, 7, HIGH}, bad -> x.enough(1, 5, 1, bad, false), bad -> x.enough(5, 5, 3, bad, true));
            for (int k = 1; k <= 5; k++) {
                int sleepers = k;
                due(x.enough(k, 0, 15 / k, k, false), 1);
                refused(x, -1, () -> x.enough(sleepers, 0, 15 / sleepers + 1, sleepers, false));
            }
        });
    }

    private static void rings() {
        test(34, "A RING: how many (i NONE), the least around it (-2), the i-th.", () -> {
            SleptFor x = ring();
            due(x.ring(SleptFor.NONE), 3);
            due(x.ring(-2), 2);
            int[] who = {1, 3, 2};
            for (int i = 0; i < 3; i++) due(x.ring(i), who[i]);
        });
        test(34, "NONE: none, there is none such, and for others.", () -> {
            SleptFor x = ring();
            refused(x, -1, new int[] {LOW, -3, 3, 4, 7, 8, 31, 32, HIGH}, bad -> x.ring(bad));
            x.repay(2, 1, 2);
            for (int i = -3; i < 9; i++) due(x.ring(i), -1); // it isn't closed any more
        });
    }

    /** 1 OWES 3 four naps, 3 2 three, 2 1 two. */
    private static SleptFor ring() {
        SleptFor x = free(4, 1);
        int[] who = {1, 3, 2, 1};
        for (int i = 0; i < 3; i++) {
            x.wake(who[i], 0);
            x.sleep(who[i + 1], who[i]);
            x.hour(4 - i);
            x.idle(who[i]);
            x.idle(who[i + 1]);
        }
        return x;
    }

    private static void without() {
        test(35, "WITHOUT a set (0 .. 255): which STOP (bits).", () -> {
            SleptFor x = free(8, 1);
            x.wake(0, 0);
            x.wake(7, 0);
            x.sleep(1, 0);
            x.sleep(6, 7);
            due(x.without(0), 0);
            due(x.without(2), 1);
            due(x.without(64), 128);
            due(x.without(255), 129);
            due(x.about(7), 129);
            x.idle(0);
            x.sleep(0, 7); // 0 and 6 for 7
            rule(x, "burn 20;");
            due(x.without(0), 0);
            due(x.without(1), 128);
        });
        test(35, "NONE for others.", () -> {
            SleptFor x = free(3, 1);
            x.wake(0, 0);
            due(x.without(255), 1);
            refused(x, -1, new int[] {LOW, -256, -1, 256, 257, 511, HIGH}, bad -> x.without(bad));
        });
        test(36, "STRIKE (bits).", () -> {
            SleptFor x = free(8, 1);
            x.wake(0, 0);
            for (int p = 5; p < 8; p++) x.sleep(p, 0);
            due(x.strike(0), 224);
            rule(x, "burn 20;");
            due(x.strike(0), 96); // two of three: the lowest
            rule(x, "burn 31;");
            due(x.strike(0), 0);
            due(x.about(8), 224);
            x = free(8, 1);
            x.wake(7, 0);
            for (int p = 0; p < 3; p++) x.sleep(p, 7);
            due(x.strike(7), 7);
        });
        test(36, "NONE: none, and for others.", () -> {
            SleptFor x = rule(free(4, 1), "burn if who=0 then 0 else 10 end;");
            x.wake(0, 0);
            x.wake(1, 0);
            x.sleep(2, 1);
            due(x.strike(1), 4);
            refused(x, -1, () -> x.strike(0)); // none
            refused(x, -1, () -> x.strike(2), () -> x.strike(3), () -> x.strike(4));
            SleptFor y = free(2, 1);
            y.wake(0, 0);
            y.wake(1, 0);
            refused(y, -1, NO_PERSON, bad -> y.strike(bad));
        });
    }

    private static void fits() {
        test(37, "FITS (bits).", () -> {
            SleptFor x = free(8, 1);
            x.wake(1, 0);
            x.sleep(0, 1);
            x.sleep(7, 1);
            x.hour(1);
            due(x.fits(1), 129);
            x.idle(0);
            x.hour(1);
            due(x.fits(1), 128);
        });
        test(37, "NONE: none KEPT, and for others.", () -> {
            SleptFor x = free(3, 1);
            due(x.fits(0), -1);
            x.hour(5);
            due(x.fits(0), -1);
            x.wake(0, 0);
            x.sleep(1, 0);
            x.hour(1);
            due(x.fits(0), 2);
            due(x.fits(1), -1);
            refused(x, -1, () -> x.fits(2), () -> x.fits(3));
            for (int bad : NO_PERSON) due(x.fits(bad), -1);
            x.undo();
            due(x.fits(0), -1); // that HOUR isn't KEPT now
        });
        test(38, "FOR NOBODY (bits).", () -> {
            due(new SleptFor().forNobody(), 0);
            SleptFor x = free(8, 1);
            due(x.forNobody(), 0);
            for (int p = 0; p < 8; p++) x.sleep(p, (p + 1) % 8);
            due(x.forNobody(), 255);
            x.idle(3);
            x.wake(3, 0);
            due(x.forNobody(), 255 - 8 - 4);
        });
    }

    private static void image() {
        test(39, "THE IMAGE is as all is now: HOUR.", () -> {
            SleptFor x = free(3, 1);
            due(x.image(), 0);
            x.wake(0, 0);
            x.sleep(1, 0);
            x.hour(3);
            due(x.image(), 3);
            String ahead = state(x);
            x.hour(5);
            due(x.back(), 3);
            due(state(x), ahead);
            x.hour(4);
            due(x.image(), 7); // it takes the place of the one ahead of it
            x.hour(1);
            due(x.back(), 7);
            due(x.about(2), 7);
        });
        test(40, "All is as at THE IMAGE again (it stays): HOUR.", () -> {
            SleptFor x = free(3, 1);
            rule(x, "sound 7;");
            x.wake(0, 0);
            x.sleep(1, 0);
            x.hour(2);
            x.image();
            String ahead = state(x);
            for (int i = 0; i < 3; i++) {
                x.hour(40);
                x.idle(0);
                x.person(1, 1);
                x.work(1, 1);
                x.by(-1);
                for (int left = 0; left < i; left++) x.undo();
                due(x.back(), 2);
                due(state(x), ahead);
            }
            for (int left = 3; left >= 0; left--) due(x.undo(), left);
            due(x.back(), 2); // STEPS as well
            due(x.about(6), 4);
            due(x.kept(1, 0), 1);
            due(x.kept(2, 0), -1);
            // HOURS that went another way behind it are as they were
            x.undo();
            x.idle(0);
            x.hour(9);
            due(x.kept(1, 0), 0);
            x.back();
            due(x.kept(1, 0), 1);
        });
    }

    private static void about() {
        test(41, "0 PEOPLE, 1 WORKS, 2 HOUR, 3 X, 4 TEXTS, 5 THE TEXT (NONE), 6 STEPS that can be taken back, 7 who is AWAKE (bits), 8 who is ASLEEP (bits), 9 bytes of the tape.", () -> {
            SleptFor x = plain(8, 3);
            x.may(6, 7);
            due(x.about(5), -1);
            rule(x, "sound 7;");
            rule(x, "sound 8;");
            x.wake(0, 0);
            x.wake(7, 1);
            x.sleep(6, 7);
            x.hour(1);
            tape(x, "abc");
            int[] all = {8, 3, 1, 10502, 2, 1, 4, 128, 64, 3};
            for (int i = 0; i < 10; i++) due(x.about(i), all[i]);
        });
        test(41, "-2 for others.", () -> {
            SleptFor x = plain(2, 1);
            refused(x, -2, new int[] {LOW, -10, -2, -1, 10, 11, 256, HIGH}, bad -> x.about(bad));
        });
    }
}
