/** The sentences of promises 1 to 19: what is told and done, and what is refused. */
final class CallSentences extends Sentences {
    private CallSentences() {
    }

    static void all() {
        made();
        told();
        done();
        called();
        hours();
        tape();
        texts();
        rules();
        undone();
    }

    private static void made() {
        test(1, "Nobody; THE IMAGE is this.", () -> {
            SleptFor x = new SleptFor();
            int[] first = {0, 0, 0, 43, 0, -1, 0, 0, 0, 0};
            for (int i = 0; i < 10; i++) due(x.about(i), first[i]);
            due(x.of(0, 0), -2);
            due(x.ofWork(0, 0), -1);
            due(x.owes(0, 0), -1);
            due(x.undo(), -1);
            due(x.ring(-1), -1);
            due(x.forNobody(), 0);
            due(x.hour(2), 0);
            due(text(x, "hour 1;"), 0);
            x.person(1, 1);
            x.person(1, 1);
            x.work(1, 1);
            x.may(1, 0);
            x.hears(0, 1);
            x.sleep(1, 0);
            x.hour(1);
            x.by(0);
            due(x.back(), 0);
            for (int i = 0; i < 10; i++) due(x.about(i), first[i]);
            due(x.undo(), -1);
            due(x.kept(0, 0), -1);
            due(x.person(2, 2), 0);
            due(x.person(2, 2), 1);
            for (int what = 2; what < 8; what++) due(x.of(1, what), what == 3 ? -1 : 0);
            due(x.work(2, 2), 0);
            due(x.ofWork(0, 0), 2);
            due(x.may(1, 0), true);
        });
    }

    private static void told() {
        test(2, "A PERSON: its number.", () -> {
            SleptFor x = new SleptFor();
            for (int i = 0; i < 8; i++) due(x.person(9 - i, i), i);
            for (int i = 0; i < 8; i++) {
                due(x.of(i, 0), 9 - i);
                due(x.of(i, 1), i);
            }
            due(x.about(0), 8);
        });
        test(2, "NONE for others,", () -> {
            SleptFor x = plain(2, 0);
            refused(x, -1, new int[] {LOW, -10, -1, 10, 11, 19, 256, HIGH}, bad -> x.person(bad, 5), bad -> x.person(5, bad), bad -> x.person(bad, bad));
            due(x.person(0, 9), 2); // they took no number
        });
        test(2, "or if there are 8.", () -> {
            SleptFor x = plain(7, 0);
            due(x.person(1, 1), 7);
            refused(x, -1, () -> x.person(1, 1), () -> x.person(0, 0), () -> x.person(9, 9));
        });
        test(3, "A WORK: its number.", () -> {
            SleptFor x = new SleptFor();
            for (int i = 0; i < 6; i++) due(x.work(99 - i, i), i);
            for (int i = 0; i < 6; i++) {
                due(x.ofWork(i, 0), 99 - i);
                due(x.ofWork(i, 1), i);
            }
            due(x.about(1), 6);
        });
        test(3, "NONE for others,", () -> {
            SleptFor x = plain(0, 2);
            refused(x, -1, new int[] {LOW, -1, 0, 100, 101, 256, HIGH}, bad -> x.work(bad, 5));
            refused(x, -1, new int[] {LOW, -1, 10, 11, 256, HIGH}, bad -> x.work(5, bad));
            due(x.work(1, 9), 2);
        });
        test(3, "or if there are 6.", () -> {
            SleptFor x = plain(0, 5);
            due(x.work(1, 1), 5);
            refused(x, -1, () -> x.work(1, 1), () -> x.work(99, 9));
        });
        test(4, "MAY: true.", () -> {
            SleptFor x = plain(8, 0);
            due(x.may(0, 7), true);
            due(x.may(7, 0), true);
            due(x.may(0, 1), true);
            due(x.of(0, 6), 130);
            due(x.of(7, 6), 1);
            due(x.of(1, 6), 0);
            due(x.about(6), 0);
        });
        test(4, "False for others,", () -> {
            SleptFor x = plain(3, 0);
            refused(x, () -> x.may(0, 0), () -> x.may(2, 2), () -> x.may(0, 3), () -> x.may(3, 0), () -> x.may(3, 3));
            refused(x, NO_PERSON, bad -> x.may(0, bad), bad -> x.may(bad, 0));
        });
        test(4, "and if it is so already.", () -> {
            SleptFor x = plain(3, 0);
            due(x.may(0, 2), true);
            refused(x, () -> x.may(0, 2), () -> x.may(0, 2));
        });
        test(5, "HEARS: true.", () -> {
            SleptFor x = plain(8, 0);
            due(x.hears(7, 0), true);
            due(x.hears(7, 3), true);
            due(x.of(0, 7), 128);
            due(x.of(3, 7), 128);
            due(x.of(7, 7), 9);
            due(x.about(6), 0);
        });
        test(5, "False for others,", () -> {
            SleptFor x = plain(3, 0);
            refused(x, () -> x.hears(0, 0), () -> x.hears(2, 2), () -> x.hears(0, 3), () -> x.hears(3, 0), () -> x.hears(3, 3));
            refused(x, NO_PERSON, bad -> x.hears(0, bad), bad -> x.hears(bad, 0));
        });
        test(5, "and if it is so already.", () -> {
            SleptFor x = plain(3, 0);
            due(x.hears(0, 2), true);
            refused(x, () -> x.hears(0, 2), () -> x.hears(2, 0)); // of two, so both ways
        });
    }

    private static void done() {
        test(6, "AWAKE: true.", () -> {
            SleptFor x = plain(8, 6);
            due(x.wake(7, 5), true);
            due(x.wake(0, 0), true);
            due(x.of(7, 2), 1);
            due(x.of(7, 3), 5);
            due(x.of(0, 3), 0);
            due(x.about(7), 129);
            due(x.about(6), 2);
        });
        test(6, "False, if it can't be,", () -> {
            SleptFor x = free(2, 2);
            x.wake(0, 0);
            x.sleep(1, 0);
            refused(x, () -> x.wake(0, 0), () -> x.wake(0, 1), () -> x.wake(1, 0));
        });
        test(6, "and for others.", () -> {
            SleptFor x = plain(3, 2);
            refused(x, () -> x.wake(3, 0), () -> x.wake(0, 2), () -> x.wake(0, 6));
            refused(x, NO_PERSON, bad -> x.wake(bad, 0), bad -> x.wake(0, bad));
            SleptFor none = plain(1, 0);
            refused(none, () -> none.wake(0, 0));
        });
        test(7, "ASLEEP: true.", () -> {
            SleptFor x = free(8, 0);
            due(x.sleep(7, 0), true);
            due(x.sleep(0, 7), true);
            due(x.of(7, 2), 2);
            due(x.of(7, 3), 0);
            due(x.of(0, 3), 7);
            due(x.about(8), 129);
            due(x.about(6), 2);
        });
        test(7, "False, if it can't be,", () -> {
            SleptFor x = plain(4, 1);
            x.may(1, 0);
            x.may(2, 0);
            x.may(2, 1);
            x.may(0, 2);
            x.wake(0, 0);
            x.sleep(2, 0);
            refused(x, () -> x.sleep(0, 2), () -> x.sleep(2, 1), () -> x.sleep(2, 0), () -> x.sleep(3, 0), () -> x.sleep(1, 2), () -> x.sleep(1, 1));
        });
        test(7, "and for others.", () -> {
            SleptFor x = free(3, 0);
            refused(x, () -> x.sleep(3, 0), () -> x.sleep(0, 3));
            refused(x, NO_PERSON, bad -> x.sleep(bad, 0), bad -> x.sleep(0, bad));
        });
        test(8, "IDLED: true.", () -> {
            SleptFor x = free(8, 1);
            x.wake(0, 0);
            x.sleep(7, 0);
            due(x.idle(0), true);
            due(x.about(8), 128); // it sleeps on
            due(x.idle(7), true);
            due(x.about(7) + x.about(8), 0);
            due(x.about(6), 4);
        });
        test(8, "False for others,", () -> {
            SleptFor x = plain(3, 1);
            x.wake(0, 0);
            refused(x, () -> x.idle(3));
            refused(x, NO_PERSON, bad -> x.idle(bad));
        });
        test(8, "and if it is IDLE.", () -> {
            SleptFor x = plain(3, 1);
            refused(x, () -> x.idle(0), () -> x.idle(2));
            x.wake(0, 0);
            x.idle(0);
            refused(x, () -> x.idle(0));
        });
    }

    private static void called() {
        test(9, "CALLED: how many were WOKEN.", () -> {
            SleptFor x = folk(4, 35, 49, 89, 99);
            for (int i = 0; i < 4; i++) x.hears(i, i + 1);
            allMay(x);
            for (int i = 0; i < 4; i++) x.sleep(i, 4);
            due(x.call(0), 4); // 4 above 3, 5 above 4, 9 above 8
            due(x.about(8), 0);
            due(x.undo(), 4);
            due(x.about(8), 15);
            due(x.call(3), 4); // 9 above 4, 9 above 3, 5 above 0
            due(x.undo(), 4);
            x.idle(1);
            due(x.call(0), 1); // who isn't ASLEEP passes nothing on
            due(x.about(8), 12);
        });
        test(9, "NONE for others,", () -> {
            SleptFor x = free(3, 0);
            x.sleep(0, 1);
            refused(x, -1, () -> x.call(3));
            refused(x, -1, NO_PERSON, bad -> x.call(bad));
        });
        test(9, "and if it isn't ASLEEP.", () -> {
            SleptFor x = free(3, 1);
            x.sleep(0, 1);
            x.wake(1, 0);
            refused(x, -1, () -> x.call(1), () -> x.call(2));
            due(x.call(0), 1);
            refused(x, -1, () -> x.call(0));
        });
        test(10, "REPAID: what it OWES then.", () -> {
            SleptFor x = owing(7);
            due(x.repay(0, 1, 2), 5);
            due(x.repay(0, 1, 4), 1);
            due(x.repay(0, 1, 1), 0);
            due(x.owes(0, 1), 0);
            due(x.about(6), 12);
        });
        test(10, "NONE for others.", () -> {
            SleptFor x = owing(7);
            refused(x, -1, () -> x.repay(0, 1, 8), () -> x.repay(0, 1, 0), () -> x.repay(0, 1, -1), () -> x.repay(0, 1, HIGH), () -> x.repay(0, 1, LOW),
                () -> x.repay(1, 0, 1), () -> x.repay(0, 0, 1), () -> x.repay(0, 0, 0), () -> x.repay(0, 2, 1), () -> x.repay(2, 0, 1));
            refused(x, -1, NO_PERSON, bad -> x.repay(0, bad, 1), bad -> x.repay(bad, 1, 1));
        });
    }

    /** 0 OWES 1 so many naps. */
    private static SleptFor owing(int naps) {
        SleptFor x = plain(2, 1);
        x.may(1, 0);
        x.wake(0, 0);
        x.sleep(1, 0);
        due(x.hour(naps), naps);
        return x;
    }

    private static void hours() {
        test(11, "HOURS pass (1 .. 60): how many RAN in them together.", () -> {
            SleptFor x = free(4, 1);
            rule(x, "burn if who=0 then 0 else if on<3 then 0 else 99 end end;");
            x.wake(0, 0);
            x.wake(1, 0);
            due(x.hour(1), 2);
            due(x.hour(60), 60 + 2); // 1 STOPS in the fourth
            due(x.about(2), 61);
            due(x.about(6), 30);
            x.idle(0);
            due(x.hour(60), 0);
        });
        test(11, "NONE for others,", () -> {
            SleptFor x = free(2, 1);
            x.wake(0, 0);
            x.sleep(1, 0);
            refused(x, -1, new int[] {LOW, -60, -1, 0, 61, 62, 256 + 60, HIGH}, bad -> x.hour(bad));
        });
        test(11, "or beyond 999.", () -> {
            SleptFor x = free(2, 1);
            for (int i = 0; i < 16; i++) due(x.hour(60), 0);
            x.wake(0, 0);
            x.sleep(1, 0);
            refused(x, -1, () -> x.hour(60), () -> x.hour(40)); // none passes, though 39 could
            due(x.hour(39), 39);
            due(x.about(2), 999);
            refused(x, -1, () -> x.hour(1), () -> x.hour(60));
        });
        test(12, "A YEAR: how many RAN.", () -> {
            SleptFor x = rule(free(4, 1), "burn 0;");
            x.wake(0, 0);
            x.wake(1, 0);
            due(x.year(seed(8, 5), 1), 2);
            due(x.year(seed(8, 7), 1), 2);
            due(x.year(seed(8, 7, 8, 6, 8, 5), 3), 6);
            due(x.year(seed(8, 1, 4, 0), 1), 0);
            due(x.about(2), 5);
        });
        test(12, "NONE for others,", () -> {
            SleptFor x = free(2, 1);
            x.wake(0, 0);
            refused(x, -1, new int[] {LOW, -1, 10000, 10001, 65536, HIGH}, bad -> x.year(bad, 1));
            refused(x, -1, new int[] {LOW, -1, 0, 31, 32, 256 + 1, HIGH}, bad -> x.year(7, bad));
            due(x.year(9999, 30) >= 0, true);
            due(x.year(0, 1), 0);
        });
        test(12, "and without PEOPLE.", () -> {
            SleptFor x = plain(0, 2);
            refused(x, -1, () -> x.year(0, 1), () -> x.year(9999, 30), () -> x.year(4, 7));
            x.person(0, 0);
            due(x.year(0, 1), 0);
        });
    }

    private static void tape() {
        test(13, "Twenty bytes come behind the tape, the highest of a first: how many it has.", () -> {
            SleptFor x = new SleptFor();
            due(x.feed(0x736f756e, 0x64202020, 0x20202020, 0x20202020, 0x2020370a), 20); // sound .. 7, line
            due(x.feed(0x20202020, 0x20202020, 0x20202020, 0x2a200a20, 0x2020383b), 40); // .. *, line, 8;
            due(x.text(), 0);
            x.person(1, 1);
            x.by(0);
            due(x.of(0, 8), 56);
            // the highest bit of each is a bit like others, and no sign
            for (int word = 0; word < 5; word++) {
                int[] words = {0x20202020, 0x20202020, 0x20202020, 0x20202020, 0x20202020};
                words[word] = 0x2020ff20;
                due(x.feed(words[0], words[1], words[2], words[3], words[4]), 20);
                due(x.text(), -1);
                due(x.fault(1), word * 4 + 2);
                words[word] = 0x80202020;
                due(x.feed(words[0], words[1], words[2], words[3], words[4]), 20);
                due(x.text(), -1);
                due(x.fault(1), word * 4);
            }
            due(x.feed(LOW, HIGH, -1, 0, 1), 20);
            for (int n = 2; n <= 15; n++) due(x.feed(LOW, HIGH, -1, 0, 1), 20 * n);
        });
        test(13, "NONE, and none come, if there would be more than 300.", () -> {
            SleptFor x = new SleptFor();
            for (int n = 1; n <= 15; n++) feed(x, "                   ;");
            refused(x, -1, () -> x.feed(0, 0, 0, 0, 0));
            due(x.about(9), 300);
            for (int n : new int[] {299, 290, 281}) {
                due(x.end(n), n);
                refused(x, -1, () -> x.feed(0, 0, 0, 0, 0));
            }
            due(x.end(280), 280);
            due(feed(x, " "), 300);
            due(x.text(), -1);
            due(x.fault(1), 19); // the first twenty are as they were
        });
        test(14, "The tape has its first n bytes alone: n.", () -> {
            SleptFor x = new SleptFor();
            due(feed(x, "sound 12345;"), 20);
            due(x.end(20), 20);
            due(x.end(8), 8);
            due(x.about(9), 8);
            due(feed(x, ";"), 28); // behind the eight
            due(x.text(), 0);
            x.person(1, 1);
            x.by(0);
            due(x.of(0, 8), 12);
            feed(x, "@");
            due(x.end(0), 0);
            due(x.about(9), 0);
            due(x.text(), 1);
        });
        test(14, "NONE, and nothing is done, if it has not so many, or n is below 0.", () -> {
            SleptFor x = new SleptFor();
            refused(x, -1, () -> x.end(1), () -> x.end(-1), () -> x.end(HIGH), () -> x.end(LOW));
            due(x.end(0), 0);
            feed(x, "hour 1;");
            x.end(7);
            refused(x, -1, () -> x.end(8), () -> x.end(20), () -> x.end(300), () -> x.end(-1), () -> x.end(-7), () -> x.end(LOW), () -> x.end(HIGH));
            due(x.end(7), 7);
            due(x.text(), 0);
        });
    }

    private static void texts() {
        test(15, "The tape (empty then) is a TEXT: its number.", () -> {
            SleptFor x = new SleptFor();
            for (int i = 0; i < 4; i++) {
                due(text(x, i == 2 ? "" : "hour " + (i + 1) + ";"), i);
                due(x.about(9), 0);
                due(x.about(4), i + 1);
            }
            for (int i = 0; i < 4; i++) due(x.played(i), -1);
            due(x.about(2), 1 + 2 + 4);
        });
        test(15, "NONE: it has a FAULT;", () -> {
            SleptFor x = new SleptFor();
            due(text(x, "hour;"), -1);
            due(x.about(4), 0);
            due(x.about(9), 0); // just with 4 TEXTS it stays
            due(text(x, "hour 1;"), 0);
            due(text(x, "hour 61;"), -1);
            due(x.about(4), 1);
            due(text(x, "hour 2;"), 1);
            due(x.played(0), -1);
            due(x.about(2), 1); // the TEXTS ahead of a FAULT stay as they are
        });
        test(15, "or (the tape stays) there are 4.", () -> {
            SleptFor x = new SleptFor();
            for (int i = 0; i < 4; i++) text(x, "hour 1;");
            due(text(x, "hour"), -1);
            due(x.about(9), 4);
            due(x.about(4), 4);
            due(x.fault(0), 0); // it isn't read
            due(feed(x, " 5;"), 24);
            x.end(7);
            due(x.text(), -1);
            due(x.about(9), 7);
            x.back(); // no TEXTS; the tape is as it was
            due(x.text(), 0);
            due(x.played(0), -1);
            due(x.about(2), 5);
        });
        test(16, "Of the latest text that was read: 0 its FAULT (0 without), 1 its place (NONE without).", () -> {
            SleptFor x = new SleptFor();
            text(x, "hour 61;");
            due(x.fault(0), 2);
            due(x.fault(1), 5);
            due(text(x, "hour 60;"), 0);
            due(x.fault(0), 0);
            due(x.fault(1), -1);
            text(x, "price on;");
            due(x.fault(0), 5);
            due(x.fault(1), 6);
            text(x, "@");
            due(x.fault(0), 1);
            due(x.fault(1), 0);
            feed(x, "@"); // the tape alone isn't read
            x.end(2);
            due(x.fault(0), 1);
            due(x.fault(1), 0);
            due(text(x, ""), 1);
            due(x.fault(0), 0);
            due(x.fault(1), -1);
        });
        test(16, "NONE for others, and ahead of any.", () -> {
            SleptFor x = new SleptFor();
            due(x.fault(0), -1);
            due(x.fault(1), -1);
            feed(x, "@");
            due(x.fault(0), -1);
            x.text();
            refused(x, -1, new int[] {LOW, -1, 2, 3, HIGH}, bad -> x.fault(bad));
            due(x.fault(0), 1);
        });
    }

    private static void rules() {
        test(17, "THE TEXT (NONE: none): true.", () -> {
            SleptFor x = plain(1, 0);
            due(x.by(-1), true); // none rules, and that may be told again
            due(x.about(5), -1);
            for (int i = 0; i < 4; i++) text(x, "sound " + (i + 6) + ";");
            for (int i : new int[] {0, 3, 3, 1}) {
                due(x.by(i), true);
                due(x.about(5), i);
                due(x.of(0, 8), i + 6);
            }
            due(x.by(SleptFor.NONE), true);
            due(x.about(5), -1);
            due(x.of(0, 8), 3);
            due(x.about(6), 0);
        });
        test(17, "False for others.", () -> {
            SleptFor x = plain(1, 0);
            refused(x, () -> x.by(0), () -> x.by(-2), () -> x.by(LOW), () -> x.by(HIGH));
            rule(x, "sound 7;");
            refused(x, () -> x.by(1), () -> x.by(3), () -> x.by(4), () -> x.by(-2), () -> x.by(LOW), () -> x.by(HIGH));
            for (int i = 0; i < 3; i++) text(x, "sound 8;");
            refused(x, () -> x.by(4), () -> x.by(5), () -> x.by(-2));
        });
        test(18, "PLAYED by a TEXT: NONE: all is done; else the number of the CLAUSE that can't be.", () -> {
            SleptFor x = free(3, 1);
            text(x, "wake 0 at 0;sleep 1 for 0;hour 1;");
            due(x.played(0), -1);
            due(x.played(0), 0); // now it is AWAKE
            text(x, "worth 1;burn 1;sleep 2 for 0;price 1;hour 1;idle 2;idle 2;hour 1;");
            due(x.played(1), 6);
            due(x.about(2), 2);
            due(x.about(8), 2);
            text(x, "hour 1;".repeat(23) + "idle 2;");
            due(x.played(2), 23);
            due(x.about(2), 25);
        });
        test(18, "-2 for others.", () -> {
            SleptFor x = free(3, 1);
            refused(x, -2, () -> x.played(0), () -> x.played(-1), () -> x.played(LOW), () -> x.played(HIGH));
            text(x, "hour 1;");
            refused(x, -2, () -> x.played(1), () -> x.played(3), () -> x.played(4), () -> x.played(-1), () -> x.played(-2), () -> x.played(LOW), () -> x.played(HIGH));
            for (int i = 0; i < 3; i++) text(x, "hour 1;");
            refused(x, -2, () -> x.played(4), () -> x.played(-1));
        });
    }

    private static void undone() {
        test(19, "The latest STEP is taken back: how many can be yet.", () -> {
            SleptFor x = free(3, 1);
            x.wake(0, 0);
            x.sleep(1, 0);
            x.hour(2);
            due(x.undo(), 3);
            due(x.about(2), 1);
            due(x.undo(), 2);
            due(x.about(2), 0);
            due(x.undo(), 1);
            due(x.about(8), 0);
            due(x.about(7), 1);
            due(x.sleep(2, 0), true);
            due(x.undo(), 1);
            due(x.undo(), 0);
            due(x.about(7), 0);
            x.hour(60);
            for (int left = 29; left >= 0; left--) due(x.undo(), left);
        });
        test(19, "NONE: there is none.", () -> {
            SleptFor x = free(3, 1);
            refused(x, -1, () -> x.undo(), () -> x.undo());
            x.wake(0, 0);
            due(x.undo(), 0);
            refused(x, -1, () -> x.undo());
            x.hour(31);
            for (int i = 0; i < 30; i++) x.undo();
            refused(x, -1, () -> x.undo(), () -> x.undo());
            due(x.about(2), 1);
        });
    }
}
