/** Each promise of the document: ordinary inputs, the edges that it names, and wrong inputs; answers worked out from its words, some draws by a script. */
public final class PromisesTest {
    private static int wrong;
    private static int asked;
    private static String promise = "";
    private static final int LOW = Integer.MIN_VALUE;
    private static final int HIGH = Integer.MAX_VALUE;

    private static void due(long got, long want) {
        asked++;
        if (got != want) {
            wrong++;
            StackTraceElement at = new Throwable().getStackTrace()[1];
            System.out.println("promise " + promise + ", line " + at.getLineNumber() + ": answered " + got + ", due is " + want);
        }
    }

    private static void due(boolean got, boolean want) {
        asked++;
        if (got != want) {
            wrong++;
            StackTraceElement at = new Throwable().getStackTrace()[1];
            System.out.println("promise " + promise + ", line " + at.getLineNumber() + ": answered " + got + ", due is " + want);
        }
    }

    private static int[] fourByFour(String s) {
        int[] words = new int[5];
        for (int i = 0; i < 20; i++) words[i / 4] = words[i / 4] << 8 | (i < s.length() ? s.charAt(i) : ' ');
        return words;
    }

    private static void tape(SleptFor x, String s) {
        x.end(0);
        for (int i = 0; i < s.length(); i += 20) {
            int[] a = fourByFour(s.substring(i));
            x.feed(a[0], a[1], a[2], a[3], a[4]);
        }
        x.end(s.length());
    }

    private static int text(SleptFor x, String s) {
        tape(x, s);
        return x.text();
    }

    private static SleptFor rule(SleptFor x, String s) {
        int text = text(x, s);
        due(text >= 0, true);
        due(x.by(text), true);
        return x;
    }

    /** PEOPLE of DEPTH 3 and VOICE 5, WORKS of NEEDS 9 and NOISE 0; no one may, no one hears. */
    private static SleptFor plain(int people, int works) {
        SleptFor x = new SleptFor();
        for (int i = 0; i < people; i++) x.person(3, 5);
        for (int i = 0; i < works; i++) x.work(9, 0);
        return x;
    }

    private static void allMay(SleptFor x, int people) {
        for (int i = 0; i < people; i++) for (int j = 0; j < people; j++) x.may(i, j);
    }

    private static void p01to05() {
        promise = "1";
        SleptFor x = new SleptFor();
        int[] first = {0, 0, 0, 43, 0, -1, 0, 0, 0, 0};
        for (int i = 0; i < first.length; i++) due(x.about(i), first[i]);
        x.person(1, 1);
        x.work(1, 1);
        due(x.back(), 0);
        for (int i = 0; i < first.length; i++) due(x.about(i), first[i]);

        promise = "2";
        due(x.person(-1, 0), -1);
        due(x.person(0, -1), -1);
        due(x.person(10, 0), -1);
        due(x.person(0, 10), -1);
        due(x.person(LOW, HIGH), -1);
        for (int i = 0; i < 8; i++) due(x.person(i == 0 ? 0 : 9, i == 0 ? 9 : 0), i);
        due(x.person(1, 1), -1);
        due(x.about(0), 8);
        due(x.of(0, 0), 0);
        due(x.of(0, 1), 9);
        due(x.of(7, 0), 9);
        due(x.of(7, 1), 0);

        promise = "3";
        due(x.work(0, 0), -1);
        due(x.work(100, 0), -1);
        due(x.work(1, -1), -1);
        due(x.work(1, 10), -1);
        for (int i = 0; i < 6; i++) due(x.work(i == 0 ? 1 : 99, i == 0 ? 9 : 0), i);
        due(x.work(5, 5), -1);
        due(x.about(1), 6);

        promise = "4";
        x = plain(3, 0);
        due(x.may(0, 1), true);
        due(x.may(0, 1), false);
        due(x.may(1, 0), true);
        due(x.may(1, 1), false);
        due(x.may(3, 0), false);
        due(x.may(0, 3), false);
        due(x.may(-1, 0), false);
        due(x.may(0, HIGH), false);
        due(x.of(0, 6), 2);
        due(x.of(1, 6), 1);
        due(x.of(2, 6), 0);

        promise = "5";
        due(x.hears(2, 0), true);
        due(x.hears(0, 2), false);
        due(x.hears(2, 2), false);
        due(x.hears(3, 2), false);
        due(x.hears(0, -1), false);
        due(x.of(0, 7), 4);
        due(x.of(2, 7), 1);
        due(x.of(1, 7), 0);
    }

    private static void p06to10() {
        promise = "6";
        SleptFor x = plain(3, 2);
        due(x.wake(0, 2), false);
        due(x.wake(3, 0), false);
        due(x.wake(-1, 0), false);
        due(x.wake(0, -1), false);
        due(x.about(6), 0);
        due(x.wake(0, 1), true);
        due(x.wake(0, 0), false);
        due(x.wake(1, 1), true);
        due(x.of(0, 2), 1);
        due(x.of(0, 3), 1);
        due(x.of(0, 4), 0);
        due(x.about(6), 2);

        promise = "7";
        x.may(2, 0);
        x.may(2, 1);
        due(x.sleep(2, 2), false);
        due(x.sleep(2, 3), false);
        due(x.sleep(3, 0), false);
        due(x.sleep(0, 2), false);
        due(x.sleep(2, 0), true);
        due(x.sleep(2, 1), false);
        due(x.of(2, 2), 2);
        due(x.of(2, 3), 0);
        x = plain(2, 0);
        x.may(0, 1);
        due(x.sleep(0, 1), true); // whatever that one does
        due(x.sleep(1, 0), false);

        promise = "8";
        due(x.idle(1), false);
        due(x.idle(2), false);
        due(x.idle(-1), false);
        due(x.idle(0), true);
        due(x.idle(0), false);
        due(x.of(0, 2), 0);
        due(x.of(0, 3), -1);
        due(x.about(6), 2);

        promise = "9";
        x = new SleptFor();
        x.person(0, 4); // wakes those of sound below 4
        x.person(3, 5);
        x.person(4, 9);
        x.person(8, 9);
        x.person(9, 9);
        for (int i = 0; i < 4; i++) x.hears(i, i + 1);
        allMay(x, 5);
        for (int i = 0; i < 4; i++) x.sleep(i, 4);
        due(x.call(4), -1);
        due(x.call(5), -1);
        due(x.call(-1), -1);
        due(x.call(0), 4); // 0 wakes 1 (4 above 3), 1 wakes 2 (5 above 4), 2 wakes 3 (9 above 8)
        due(x.about(8), 0);
        due(x.undo(), 4);
        due(x.about(8), 15);
        due(x.call(3), 4); // 3 wakes 2 (9 above 4), 2 wakes 1, 1 wakes 0
        due(x.undo(), 4);
        x.idle(1);
        due(x.call(0), 1); // 1 isn't ASLEEP and wakes nobody
        due(x.of(0, 2), 0);

        promise = "10";
        x = plain(2, 1);
        x.may(1, 0);
        x.wake(0, 0);
        x.sleep(1, 0);
        x.hour(5);
        due(x.repay(0, 1, 6), -1);
        due(x.repay(0, 1, 0), -1);
        due(x.repay(0, 1, -1), -1);
        due(x.repay(1, 0, 1), -1);
        due(x.repay(0, 0, 1), -1);
        due(x.repay(0, 2, 1), -1);
        due(x.repay(-1, 0, 1), -1);
        due(x.about(6), 7);
        due(x.repay(0, 1, 2), 3);
        due(x.repay(0, 1, 3), 0);
        due(x.about(6), 9);
        due(x.undo(), 8);
        due(x.owes(0, 1), 3);
    }

    private static void p11() {
        promise = "11";
        SleptFor x = plain(3, 1);
        x.may(1, 0);
        x.may(2, 0);
        x.wake(0, 0);
        x.sleep(1, 0);
        x.sleep(2, 0);
        due(x.hour(0), -1);
        due(x.hour(61), -1);
        due(x.hour(LOW), -1);
        due(x.hour(2), 2);
        // X: 43, 10502, 23608, 9999, 23229: DREAMS 3, 2, then 8, 9
        due(x.of(1, 5), 8);
        due(x.of(2, 5), 9);
        due(x.about(3), (9999 * 241 + 139) % 30211);
        due(x.of(0, 4), 2);
        due(x.of(1, 4), 2);
        due(x.about(2), 2);
        due(x.about(6), 5);
        due(x.hour(60), 60);
        due(x.ofWork(0, 2), 9); // NEEDS at most
        due(x.owes(0, 1), 62);
        due(x.hour(60), 60);
        due(x.owes(0, 2), 99);
        due(x.about(6), 30);
        for (int i = 0; i < 14; i++) due(x.hour(60), 60);
        due(x.about(2), 962);
        due(x.hour(38), -1);
        due(x.hour(37), 37);
        due(x.about(2), 999);
        due(x.hour(1), -1);

        // one that STOPS is IDLE; who sleeps for it sleeps on
        x = plain(2, 1);
        x.may(1, 0);
        x.wake(0, 0);
        due(x.hour(1), 0);
        due(x.of(0, 2), 0);
        due(x.kept(0, 1), 1);
        x.sleep(1, 0);
        due(x.hour(1), 0);
        due(x.of(1, 2), 2);
        due(x.of(1, 4), 1);

        // NOISE above the sound wakes, the same doesn't; who STOPS makes none
        x = new SleptFor();
        x.person(0, 0);
        x.person(4, 9);
        x.person(5, 0);
        x.person(8, 0);
        x.work(5, 5);
        x.may(1, 0);
        x.may(2, 0);
        x.may(3, 0);
        x.hears(0, 1);
        x.hears(0, 2);
        x.hears(1, 3);
        x.wake(0, 0);
        x.sleep(1, 0);
        x.sleep(2, 0);
        x.sleep(3, 0);
        due(x.hour(1), 1);
        due(x.about(8), 4); // 1 by NOISE (5 above 4), 3 by the VOICE of 1 (9 above 8), 2 (sound 5) sleeps on
        due(x.kept(0, 2), 14);
        due(x.owes(0, 1), 1);
        due(x.owes(0, 3), 1);
        rule(x, "burn 99;");
        x.sleep(1, 0);
        due(x.hour(1), 0);
        due(x.about(8), 6);

        // burn 0 RUNS without sleep; the laws see DREAM, ON and HOUR of that HOUR
        x = plain(2, 1);
        x.may(1, 0);
        rule(x, "burn if on<2 then 0 else 4 end;worth dream;");
        x.wake(0, 0);
        due(x.hour(2), 2);
        x.sleep(1, 0);
        due(x.hour(1), 0); // DREAM 3, and burn 4 by ON 2
    }

    private static void p12() {
        promise = "12";
        SleptFor x = new SleptFor();
        due(x.year(0, 1), -1);
        x = plain(2, 0);
        due(x.year(-1, 1), -1);
        due(x.year(10000, 1), -1);
        due(x.year(0, 0), -1);
        due(x.year(0, 31), -1);
        due(x.about(6), 0);
        due(x.about(3), 43);
        // 43 mod 8 is 3: without WORKS nothing more is drawn; 10502 mod 8 is 6: an HOUR
        due(x.year(0, 1), 0);
        due(x.about(3), 10502);
        due(x.about(6), 1);
        due(x.year(0, 2), 0);
        due(x.about(3), 23608);
        due(x.about(2), 1);
        // 23608 mod 8 is 0: a PERSON drawn by 2 from 9999: 1; it MAY sleep for nobody that is AWAKE
        due(x.year(0, 3), 0);
        due(x.about(3), (9999 * 241 + 139) % 30211);
        due(x.of(1, 2), 0);
        x.work(9, 0);
        x.may(1, 0);
        // with a WORK: 3, PERSON 10502 mod 2 = 0, WORK 0 from 23608; then 9999 mod 8 = 7: an HOUR, 0 STOPS
        due(x.year(0, 2), 0);
        due(x.of(0, 2), 0);
        due(x.kept(2, 1), 1);
        due(x.about(2), 3);
        x.wake(0, 0);
        // X 45 by SEED 1: 45 mod 8 is 5: an HOUR; X 10984 mod 8 is 0: PERSON by 2 from X then
        int next = (45 * 241 + 139) % 30211;
        int after = (next * 241 + 139) % 30211;
        due(next % 8, 0);
        rule(x, "burn 0;");
        due(x.year(1, 2), 1);
        due(x.of(after % 2, 2), after % 2 == 1 ? 2 : 1);
        int steps = x.about(6);
        due(x.undo(), steps - 1);
        due(x.about(2), 3);
        due(x.of(1, 2), 0);
        // SEED 13: X 69 mod 8 is 5: an HOUR with a DREAM by 16768; 23164 mod 8 is 4: PERSON 1 by 23839 is CALLED
        x = plain(2, 0);
        x.may(1, 0);
        x.sleep(1, 0);
        due(x.year(13, 1), 0);
        due(x.of(1, 2), 2);
        due(x.undo(), 1);
        due(x.year(13, 2), 0);
        due(x.of(1, 2), 0);
        due(x.of(1, 5), 8);
        due(x.about(3), 5248);
        x = plain(1, 0);
        for (int i = 0; i < 20; i++) x.hour(49);
        due(x.about(2), 980);
        x.hour(19);
        due(x.year(9999, 30), 0);
        due(x.year(1, 1), 0); // 999 stays
        due(x.about(2), 999);
        due(x.about(3), next);
    }

    private static void p13to15() {
        promise = "13";
        SleptFor x = new SleptFor();
        for (int i = 1; i <= 15; i++) due(x.feed(0x77616b65, 0x20302061, 0x7420303b, 0x20202020, 0x20202020), 20 * i);
        due(x.feed(0, 0, 0, 0, 0), -1);
        due(x.about(9), 300);

        promise = "14";
        due(x.end(301), -1);
        due(x.end(-1), -1);
        due(x.end(300), 300);
        due(x.end(281), 281);
        due(x.feed(0, 0, 0, 0, 0), -1);
        due(x.end(280), 280);
        due(x.end(281), -1);
        due(x.feed(0x20202020, 0x20202020, 0x20202020, 0x20202020, 0x20202020), 300);

        promise = "15";
        due(x.text(), 0); // fifteen less one times wake 0 at 0;
        due(x.about(9), 0);
        due(x.text(), 1); // an empty one has no FAULT
        due(text(x, "hour"), -1);
        due(x.about(9), 0);
        due(text(x, "hour 1;"), 2);
        due(text(x, "worth 1;burn 1;sound 1;price 1;"), 3);
        tape(x, "hour 1;");
        due(x.text(), -1);
        due(x.about(9), 7);
        due(x.about(4), 4);
        due(x.fault(0), 0);
        tape(x, "hour");
        due(x.text(), -1);
        due(x.about(9), 4);
        due(x.fault(0), 0);
    }

    private static void faulty(String s, int fault, int place) {
        SleptFor x = new SleptFor();
        due(text(x, s), fault == 0 ? 0 : -1);
        due(x.fault(0), fault);
        due(x.fault(1), place);
    }

    private static void p16() {
        promise = "16";
        SleptFor x = new SleptFor();
        due(x.fault(0), -1);
        due(x.fault(1), -1);
        due(text(x, "hour 1;"), 0);
        due(x.fault(0), 0);
        due(x.fault(1), -1);
        due(x.fault(2), -1);
        due(x.fault(-1), -1);
        faulty("", 0, -1);
        faulty(" \n ", 0, -1);
        faulty("wake7at5;sleep7for7;idle0;call7;repay0to7by99;hour60;", 0, -1);
        faulty("worth who+now+on+depth+dream+whom;burn who+now+on+task+noise;sound who+now+on+depth;price who+now+depth+owed;", 0, -1);
        // 1
        faulty("hour 1", 1, 6);
        faulty("hour 1  ", 1, 8);
        faulty("hour ;", 1, 5);
        faulty("hours 1;", 1, 0);
        faulty("Hour 1;", 1, 0);
        faulty("hour\t1;", 1, 4);
        faulty(";", 1, 0);
        faulty("1", 1, 0);
        faulty("hour 1;;", 1, 7);
        faulty("hour - 1;", 1, 5);
        faulty("worth;", 1, 5);
        faulty("worth 1 2;", 1, 8);
        faulty("worth (1;", 1, 8);
        faulty("worth 1);", 1, 7);
        faulty("worth ();", 1, 7);
        faulty("worth +1;", 1, 6);
        faulty("worth 1<2;", 1, 7);
        faulty("worth if 1 then 2 else 3 end;", 1, 11);
        faulty("worth if (1<2) then 2 else 3 end;", 1, 11);
        faulty("worth if 1<2<3 then 2 else 3 end;", 1, 12);
        faulty("worth if 1=<2 then 2 else 3 end;", 1, 11);
        faulty("worth if 1<2 then 2 end;", 1, 20);
        faulty("worth if 1<2 then 2 else 3;", 1, 26);
        faulty("worth not 1<2;", 1, 6);
        faulty("worth foo;", 1, 6);
        faulty("worth WHO;", 1, 6);
        faulty("worth whoo;", 1, 6);
        faulty("worth dreams;", 1, 6);
        faulty("worth whoZ;", 1, 6);
        faulty("worth whoA;", 1, 6);
        faulty("worth whoa;", 1, 6);
        faulty("worth whoz;", 1, 6);
        faulty("worth who[;", 1, 9);
        faulty("worth who@;", 1, 9);
        faulty("worth who`;", 1, 9);
        faulty("worth who{;", 1, 9);
        faulty("worth 1:;", 1, 7);
        faulty("worth 1/;", 1, 8);
        faulty(";".repeat(300), 1, 0);
        // as many TOKENS as there can be
        faulty("worth" + "1+".repeat(146) + "1;\n", 0, -1);
        faulty("worth" + "1+".repeat(147) + "1", 1, 300);
        faulty("worth" + "1+".repeat(147) + ";", 1, 299);
        faulty("wake who at 1;", 1, 5);
        faulty("worth sound;", 1, 6);
        faulty("worth 1" + (char) 233 + ";", 1, 7);
        faulty("repay 1 by 2 to 3;", 1, 8);
        // the one that can't stand there is 1, be it above 9999 too
        faulty("hour 1 10000;", 1, 7);
        faulty("10000", 1, 0);
        // 2
        faulty("worth 9999;", 0, -1);
        faulty("worth 10000;", 2, 6);
        faulty("worth 00009999;", 0, -1);
        faulty("worth 99999999999999999999999999;", 2, 6);
        faulty("wake 8 at 0;", 2, 5);
        faulty("wake 7 at 6;", 2, 10);
        faulty("sleep 8 for 0;", 2, 6);
        faulty("sleep 0 for 8;", 2, 12);
        faulty("idle 8;", 2, 5);
        faulty("call 8;", 2, 5);
        faulty("repay 8 to 0 by 1;", 2, 6);
        faulty("repay 0 to 8 by 1;", 2, 11);
        faulty("repay 0 to 1 by 0;", 2, 16);
        faulty("repay 0 to 1 by 100;", 2, 16);
        faulty("hour 0;", 2, 5);
        faulty("hour 61;", 2, 5);
        faulty("hour 10000;", 2, 5);
        // 3
        faulty("worth ((((((((1))))))));", 0, -1);
        faulty("worth (((((((((1)))))))));", 3, 14);
        faulty("worth --------1;", 0, -1);
        faulty("worth ---------1;", 3, 14);
        faulty("worth ((((((((1))))))))+((((((((1))))))))*-1;", 0, -1);
        faulty("worth ((((((((1))))))))-(((((((-(1))))))));", 3, 32);
        faulty("worth if not not not not not not not 1<2 then 1 else 2 end;", 0, -1);
        faulty("worth if not not not not not not not not 1<2 then 1 else 2 end;", 3, 37);
        faulty("worth if not not not not not not not (1)<2 then 1 else 2 end;", 3, 37);
        faulty("worth if not not not not not not not 1<(2) then 1 else 2 end;", 3, 39);
        faulty("worth if not not not not not not not 1<2 or 1<(2) then (1) else (2) end;", 0, -1);
        faulty("worth (((((((if 1<(2) then 1 else 2 end)))))));", 3, 18);
        faulty("worth (((((((if 1<2 then -1 else 2 end)))))));", 3, 25);
        faulty("worth (((((((if 1<2 then 1 else (2) end)))))));", 3, 32);
        faulty("worth (((((((if 1<2 then 1 else 2 end*(1))))))));", 0, -1);
        faulty("worth ((((((((if 1<2 then 1 else 2 end))))))));", 3, 14);
        // 4
        faulty("worth 1;burn 1;sound 1;price 1;price 1;", 4, 31);
        faulty("sound 1;sound", 4, 8);
        // 5
        faulty("price on;", 5, 6);
        faulty("price dream;", 5, 6);
        faulty("sound whom;", 5, 6);
        faulty("sound owed;", 5, 6);
        faulty("burn depth;", 5, 5);
        faulty("burn whom;", 5, 5);
        faulty("worth task;", 5, 6);
        faulty("worth 1+noise;", 5, 8);
        // 6, and the least of one TOKEN
        String many = "hour 1;".repeat(23) + "worth 1;";
        faulty(many, 0, -1);
        faulty(many + "hour 1;", 6, 169);
        faulty(many + "burn", 6, 169);
        faulty(many + " worth 1;", 4, 170);
        faulty(many + "hours", 1, 169);
        faulty("hour 1;".repeat(24) + ";", 1, 168);
    }

    private static void p17and18() {
        promise = "17";
        SleptFor x = plain(4, 2);
        due(x.by(0), false);
        due(x.by(-1), true);
        due(x.by(-2), false);
        due(text(x, "sound 7;"), 0);
        due(x.of(0, 8), 3);
        due(x.by(0), true);
        due(x.about(5), 0);
        due(x.of(0, 8), 7);
        due(x.by(1), false);
        due(x.about(5), 0);
        due(x.by(-1), true);
        due(x.about(5), -1);
        due(x.of(0, 8), 3);

        promise = "18";
        due(x.played(1), -2);
        due(x.played(-1), -2);
        due(x.played(0), -1);
        due(x.about(6), 0);
        x.may(1, 0);
        due(text(x, "wake 0 at 1; worth 50; sleep 1 for 0; hour 3; repay 0 to 1 by 2; idle 0; call 1; call 1; hour 9;"), 1);
        due(x.played(1), 7);
        due(x.about(2), 3);
        due(x.about(6), 8); // AWAKE, ASLEEP, three HOURS, REPAID, IDLED, CALLED
        due(x.owes(0, 1), 1);
        due(x.about(7) + x.about(8), 0);
        due(x.about(5), -1); // its laws don't rule by that
        for (int i = 0; i < 19; i++) x.hour(51);
        due(x.about(2), 972);
        due(text(x, "hour 20; hour 20; idle 0;"), 2);
        due(x.played(2), 1);
        due(x.about(2), 999); // those that can are done
        due(x.played(2), 0);
        due(text(x, "wake 7 at 0;"), 3);
        due(x.played(3), 0);
    }

    private static void p19() {
        promise = "19";
        SleptFor x = plain(2, 1);
        due(x.undo(), -1);
        x.may(1, 0);
        x.wake(0, 0);
        x.sleep(1, 0);
        x.hour(4);
        x.person(1, 1);
        x.work(5, 5);
        x.may(2, 0);
        x.may(0, 2);
        x.sleep(2, 0);
        rule(x, "worth 20;");
        due(x.hour(1), 1);
        due(x.owes(0, 2), 1);
        x.idle(0);
        x.wake(0, 1);
        due(x.hour(1), 1);
        due(x.ofWork(1, 2), 1);
        x.idle(0);
        due(x.sleep(0, 2), true);
        due(x.undo(), 12);
        due(x.of(0, 2), 0);
        due(x.undo(), 11);
        due(x.of(0, 4), 1);
        due(x.undo(), 10);
        due(x.ofWork(1, 2), 0);
        due(x.owes(0, 2), 1);
        for (int i = 9; i >= 5; i--) due(x.undo(), i);
        // ahead of the fourth HOUR: 2 wasn't told then, and is IDLE
        due(x.about(0), 3);
        due(x.of(2, 2), 0);
        due(x.of(2, 5), 0);
        due(x.owes(0, 2), 0);
        due(x.owes(0, 1), 3);
        due(x.about(2), 3);
        due(x.kept(3, 0), -1);
        due(x.kept(2, 0), 1);
        due(x.about(5), 0);
        due(x.of(2, 6), 1);
        due(x.ofWork(0, 2), 3);
        for (int i = 4; i >= 0; i--) due(x.undo(), i);
        due(x.undo(), -1);
        due(x.about(3), 43);
        due(x.about(2), 0);
        // the latest 30; KEPT comes back
        x.hour(60);
        x.hour(30);
        due(x.kept(29, 0), -1);
        due(x.kept(30, 0), 0);
        for (int i = 29; i >= 0; i--) due(x.undo(), i);
        due(x.undo(), -1);
        due(x.about(2), 60);
        due(x.kept(0, 0), 0);
        due(x.kept(60, 0), -1);
    }

    private static void p20to23() {
        promise = "20";
        SleptFor x = new SleptFor();
        x.person(3, 5);
        x.person(2, 8);
        x.work(7, 6);
        x.may(1, 0);
        x.hears(0, 1);
        int[] idle = {3, 5, 0, -1, 0, 0, 0, 2, 3, -1, -1, -1};
        for (int i = 0; i < 12; i++) due(x.of(0, i), idle[i]);
        due(x.of(0, 12), -2);
        due(x.of(0, -1), -2);
        due(x.of(2, 0), -2);
        due(x.of(-1, 0), -2);
        x.wake(0, 0);
        x.sleep(1, 0);
        rule(x, "worth depth*10+on+dream+whom+now;burn noise*2+task+on+who+now;sound depth+on*3;");
        due(x.of(1, 10), 20);
        due(x.of(0, 9), 12);
        due(x.of(0, 11), 20);
        due(x.of(0, 10), -1);
        due(x.of(1, 9), -1);
        due(x.of(1, 11), -1);
        due(x.of(1, 8), 2);
        x.hears(0, 1);
        rule(x, "sound depth+on*3+9;worth depth*10+on+dream+whom+now;burn noise*2+task+on+who+now;");
        due(x.hour(1), 1);
        int[] asleep = {2, 8, 2, 0, 1, 3, 1, 1, 14, -1, 25, -1};
        for (int i = 0; i < 12; i++) due(x.of(1, i), asleep[i]);
        int[] awake = {3, 5, 1, 0, 1, 0, 0, 2, 15, 14, -1, 25};
        for (int i = 0; i < 12; i++) due(x.of(0, i), awake[i]);
        laws();

        promise = "21";
        due(x.ofWork(0, 0), 7);
        due(x.ofWork(0, 1), 6);
        due(x.ofWork(0, 2), 1);
        due(x.ofWork(0, 3), -1);
        due(x.ofWork(0, -1), -1);
        due(x.ofWork(1, 0), -1);
        due(x.ofWork(-1, 0), -1);

        promise = "22";
        due(x.owes(0, 1), 1);
        due(x.owes(1, 0), 0);
        due(x.owes(0, 0), 0);
        due(x.owes(2, 0), -1);
        due(x.owes(2, 2), -1);
        due(x.owes(0, -1), -1);

        promise = "23";
        due(x.kept(0, 0), 1);
        due(x.kept(0, 1), 0);
        due(x.kept(0, 2), 2);
        due(x.kept(0, 3), -1);
        due(x.kept(0, -1), -1);
        due(x.kept(1, 0), -1);
        due(x.kept(-1, 0), -1);
        x.hour(60);
        due(x.kept(0, 0), -1);
        due(x.kept(1, 2), 2);
        due(x.kept(60, 2), 2);
        due(x.kept(61, 2), -1);
    }

    private static void value(String sum, int want) {
        SleptFor x = plain(3, 0);
        rule(x, "sound " + sum + ";");
        due(x.of(2, 8), want);
    }

    private static void laws() {
        value("2+3*4", 14);
        value("20-5-3", 12);
        value("100/7/2", 7);
        value("50-7/2*2", 44);
        value("50+-7/2", 47);
        value("9/0+4", 4);
        value("who*10+depth", 23);
        value("-5", 0);
        value("100", 99);
        value("--5", 5);
        value("9999*9999/9999", 99);
        value("9999*9999-9999*100-99", 1);
        value("-9999*9999+9999*100+103", 3);
        value("9999*101-9999*100-9990", 0); // the first is 1000000 at most, so it is -9890 in all
        value("9999*101-9999*100+10", 99);
        value("9999*101-9999*100-90", 10);
        value("if 1<2 then 5 else 6 end", 5);
        value("if 2<2 then 5 else 6 end", 6);
        value("if 2<=2 then 5 else 6 end", 5);
        value("if 2>2 then 5 else 6 end", 6);
        value("if 2>=2 then 5 else 6 end", 5);
        value("if 2=2 then 5 else 6 end", 5);
        value("if 2#2 then 5 else 6 end", 6);
        value("if 1=1 or 1=1 and 1=2 then 5 else 6 end", 5);
        value("if 1=2 and 1=1 or 1=1 then 5 else 6 end", 5);
        value("if not 1=2 and 1=2 then 5 else 6 end", 6);
        value("if not not 1=1 then 5 else 6 end*2", 10);
        value("1+if who=2 then if depth=3 then 7 else 8 end else 9 end*2", 15);
        value("if 1=2 then 1 else if 1=2 then 2 else 3 end+4 end-1", 6);
        value("(1+2)*(3-(4-5))", 12);
        value("10-(2+3)-1", 4);
        value("now+on", 0);
        SleptFor x = plain(2, 1);
        x.may(1, 0);
        x.wake(0, 0);
        x.sleep(1, 0);
        rule(x, "worth 200;burn 0-5;price 5;");
        due(x.of(1, 10), 99);
        due(x.of(0, 9), 0);
        due(x.of(0, 8), 3); // sound without
        rule(x, "burn 1000;price 2000;");
        due(x.of(1, 10), 10);
        due(x.of(0, 9), 99);
    }

    private static void p24and25() {
        promise = "24";
        SleptFor x = plain(3, 2);
        x.may(1, 0);
        x.may(2, 0);
        x.wake(0, 1);
        x.sleep(1, 0);
        due(x.foretoldDone(0, 1), -1);
        due(x.foretoldDone(61, 1), -1);
        due(x.foretoldDone(1, 2), -1);
        due(x.foretoldDone(1, -1), -1);
        due(x.foretoldDone(1, 1), 1);
        due(x.foretoldDone(60, 1), 9);
        due(x.foretoldDone(60, 0), 0);
        due(x.about(2), 0);
        due(x.about(3), 43);
        due(x.about(6), 2);
        due(x.owes(0, 1), 0);
        due(x.of(1, 5), 0);

        promise = "25";
        rule(x, "worth dream;burn 3;");
        // DREAMS 3, 2: it RUNS, then STOPS
        due(x.foretoldStop(1, 0), -1);
        due(x.foretoldStop(2, 0), 2);
        due(x.foretoldStop(60, 0), 2);
        due(x.foretoldStop(60, 1), -1);
        due(x.foretoldStop(60, 3), -1);
        due(x.foretoldStop(0, 0), -1);
        due(x.foretoldStop(61, 0), -1);
        due(x.foretoldDone(60, 1), 1);
        // 999 doesn't bound it, and now goes on
        x = plain(1, 1);
        rule(x, "burn if now<1001 then 0 else 1 end;");
        for (int i = 0; i < 27; i++) x.hour(37);
        due(x.about(2), 999);
        x.wake(0, 0);
        due(x.foretoldStop(60, 0), 3);
        due(x.foretoldDone(60, 0), 2);
        due(x.foretoldDone(1, 0), 1);
        due(x.about(2), 999);
    }

    private static void p26and27() {
        promise = "26";
        SleptFor x = plain(7, 1);
        for (int s = 2; s < 7; s++) {
            x.may(s, 0);
            if (s != 3) x.may(s, 1);
        }
        // each waker needs one; the lowest sleeper goes to the lowest waker
        due(x.match(3, 0, 0b1111100, false, -1), 2);
        due(x.match(3, 0, 0b1111100, false, 2), 0);
        due(x.match(3, 0, 0b1111100, false, 3), 8); // 3 may not for 1
        due(x.match(3, 0, 0b1111100, false, 4), 1);
        due(x.match(3, 0, 0b1111100, false, 5), 8);
        due(x.match(3, 0, 0b0001100, false, 2), 1);
        due(x.match(3, 0, 0b0001100, false, 3), 0);
        due(x.match(2, 0, 0b0001000, false, -1), -1);
        due(x.match(0, 0, 4, false, -1), -1);
        due(x.match(1, 0, 0, false, -1), -1);
        due(x.match(1, 0, 3, false, -1), -1);
        due(x.match(1, 1, 4, false, -1), -1);
        due(x.match(1, -1, 4, false, -1), -1);
        due(x.match(1, 0, 128, false, -1), -1);
        due(x.match(128, 0, 4, false, -1), -1);
        due(x.match(31, 0, 96, false, -1), -1);
        due(x.match(1, 0, 4, false, 3), -1);
        due(x.match(1, 0, 4, false, -2), -1);
        due(x.match(1, 0, 4, false, 34), -1);
        due(x.match(-1, 0, 4, false, -1), -1);
        due(x.match(1, 0, 0b1111110, false, -1), 1);
        due(x.match(1, 0, 4, true, -1), 1);
        // each is worth its number in tens; the dearest is the one of many
        rule(x, "worth who*2;burn 12;price if who=6 then 9 else who end;");
        due(x.match(1, 0, 0b1111100, false, -1), 1);
        due(x.match(1, 0, 0b1111100, false, 6), 0);
        due(x.match(1, 0, 0b1111100, true, -1), 6);
        due(x.match(1, 0, 0b1111100, true, 2), 0);
        due(x.match(1, 0, 0b1111100, true, 4), 0);
        due(x.match(1, 0, 0b1111100, true, 6), 8);
        rule(x, "worth who*2;burn 12;price who;");
        due(x.match(1, 0, 0b1111100, true, -1), 6); // 6 alone has the same price as 2 and 4: the fewest
        due(x.match(1, 0, 0b1111100, true, 6), 0);
        due(x.match(1, 0, 0b1111100, true, 2), 8);
        rule(x, "burn 0;");
        due(x.match(3, 0, 4, false, -1), 0);
        due(x.match(3, 0, 4, true, 2), 8);
        x.back();
        // what it is owed makes a price; a set of eight PEOPLE
        x = plain(8, 1);
        allMay(x, 8);
        x.wake(0, 0);
        x.sleep(1, 0);
        x.hour(7);
        rule(x, "price 20-owed*2;worth if on+dream=0 then 10 else 0 end;");
        due(x.match(1, 0, 0b10, true, -1), 6);
        due(x.match(1, 0, 0b110, true, 1), 0);
        due(x.match(4, 0, 0b10, true, -1), 20);
        due(x.match(15, 0, 0b11110000, false, 4), 0);
        due(x.match(15, 0, 0b11110000, false, 7), 3);
        due(x.match(3, 0, 0b11111100, false, -1), 2);
        due(x.match(1, 0, 0b11111110, false, -1), -1);

        promise = "27";
        x = plain(6, 1);
        x.may(3, 0);
        x.may(3, 1);
        x.may(4, 1);
        x.may(3, 2);
        due(x.whoCannot(7, 0, 0b11000), 5); // 0 and 2 have just 3
        due(x.whoCannot(3, 0, 0b11000), -1);
        due(x.whoCannot(6, 0, 0b11000), -1);
        due(x.whoCannot(7, 0, 0b10000), 1);
        due(x.whoCannot(6, 0, 0b01000), 6);
        due(x.whoCannot(6, 0, 0b100000), 2);
        due(x.whoCannot(6, 1, 0b01000), -1);
        due(x.whoCannot(6, 0, 0b00100), -1);
        due(x.whoCannot(0, 0, 8), -1);
        due(x.whoCannot(1, 0, 64), -1);
        due(x.whoCannot(1, 0, 0), -1);
        // its greatest worth for one of them: what none holds, though no set shows it
        rule(x, "worth whom*5+5;burn 10;");
        due(x.whoCannot(1, 0, 0b01000), 1);
        due(x.whoCannot(3, 0, 0b11000), 1);
        due(x.whoCannot(2, 0, 0b11000), -1);
        rule(x, "worth whom*10+7;burn 10;");
        due(x.whoCannot(5, 0, 0b01000), 1);
        rule(x, "worth whom*10+10;burn 15-who*5;");
        due(x.whoCannot(4, 0, 0b01000), -1);
        due(x.whoCannot(5, 0, 0b01000), 1);
        due(x.match(5, 0, 0b01000, false, -1), -1);
        rule(x, "worth if whom=2 then 25 else 10 end;burn 10;");
        due(x.whoCannot(5, 0, 0b01000), -1);
        due(x.match(5, 0, 0b01000, false, -1), -1);
    }

    private static void p28to30() {
        promise = "28";
        SleptFor x = plain(6, 0);
        x.may(1, 0);
        x.may(2, 1);
        x.may(3, 1);
        x.may(2, 0);
        x.may(4, 3);
        x.may(0, 4);
        due(x.behind(0, -1), 4);
        due(x.behind(0, 0), 0);
        due(x.behind(0, 1), 1);
        due(x.behind(0, 2), 1);
        due(x.behind(0, 3), 2);
        due(x.behind(0, 4), 3);
        due(x.behind(0, 5), -1);
        due(x.behind(5, -1), 0);
        due(x.behind(3, 0), 2);
        due(x.behind(3, 1), 3);
        due(x.behind(6, 0), -1);
        due(x.behind(0, 6), -1);
        due(x.behind(0, -2), -1);
        due(x.behind(-1, -1), -1);

        promise = "29";
        due(x.valley(0, 10), -1);
        due(x.valley(24, 10), -1);
        due(x.valley(8, 0), -1);
        due(x.valley(8, 100), -1);
        due(x.valley(12, 10), 2);
        due(x.valley(13, 10), -1);
        due(x.valley(1, 1), 11);
        due(x.valley(16, 20), 3); // of three two are AWAKE at once: 48 HOURS of 48
        due(x.valley(17, 20), -1);
        due(x.valley(21, 99), 8); // of 8 seven at once: 168 HOURS of 168
        due(x.valley(22, 99), -1);
        due(x.valley(21, 98), 8);
        due(x.valley(2, 1), 11);
        due(x.valley(3, 1), -1);

        promise = "30";
        due(x.rota(4, 3, 2, 1, -1), 1);
        due(x.rota(4, 3, 2, 1, 1), 0);
        due(x.rota(4, 3, 2, 1, 2), 1);
        due(x.rota(3, 8, 3, 8, -1), 0);
        due(x.rota(3, 8, 3, 8, 2), 3);
        due(x.rota(4, 8, 3, 0, -1), -1); // it can't go on itself, by r 0 too
        due(x.rota(5, 3, 2, 0, -1), 2);
        due(x.rota(5, 3, 2, 0, 4), 0);
        due(x.rota(5, 3, 2, 2, 1), 0); // 0 0 1 1 0
        due(x.rota(5, 3, 2, 2, 4), 0);
        due(x.rota(5, 3, 2, 3, -1), -1);
        due(x.rota(5, 7, 2, 3, 4), 2); // 0 0 1 1 2
        due(x.rota(4, 3, 3, 1, 0), 0); // 0 0 0 1 is ahead of 0 0 1 1
        due(x.rota(4, 3, 3, 1, 2), 0);
        due(x.rota(4, 3, 3, 1, 3), 1);
        due(x.rota(8, 15, 2, 6, 7), 3);
        due(x.rota(0, 3, 2, 1, -1), -1);
        due(x.rota(9, 3, 2, 1, -1), -1);
        due(x.rota(4, 0, 2, 1, -1), -1);
        due(x.rota(4, 31, 2, 1, -1), -1);
        due(x.rota(4, 64, 2, 1, -1), -1);
        due(x.rota(4, -1, 2, 1, -1), -1);
        due(x.rota(4, 3, 0, 1, -1), -1);
        due(x.rota(4, 3, 9, 1, -1), -1);
        due(x.rota(4, 3, 2, -1, -1), -1);
        due(x.rota(4, 3, 2, 9, -1), -1);
        due(x.rota(4, 3, 2, 1, 4), -1);
        due(x.rota(4, 3, 2, 1, -2), -1);
    }

    private static void p31and32() {
        promise = "31";
        SleptFor x = new SleptFor();
        x.person(0, 9);
        x.person(4, 5);
        x.person(4, 5);
        x.person(4, 5);
        x.person(4, 5);
        x.person(9, 9);
        // 0 wakes 1 and 2; 1 and 2 wake 3; 3 wakes 4; 5 sleeps too sound
        x.hears(0, 1);
        x.hears(0, 2);
        x.hears(1, 3);
        x.hears(2, 3);
        x.hears(3, 4);
        x.hears(0, 5);
        allMay(x, 6);
        for (int i = 0; i < 6; i++) x.sleep(i, (i + 1) % 6);
        due(x.chain(0), 31);
        due(x.chain(4), 31);
        due(x.chain(5), 63); // 0 by 5, and then 1, 2, 3, 4
        due(x.chain(6), -1);
        due(x.chain(-1), -1);
        due(x.about(8), 63);
        x.idle(3);
        due(x.chain(4), 16);
        due(x.chain(3), -1);
        x.undo();

        promise = "32";
        due(x.guard(0, 8), 8);
        due(x.guard(0, 16), 8); // 3 alone is as few as 4 alone, and lower
        due(x.guard(0, 2), 2);
        due(x.guard(0, 6), 6);
        due(x.guard(0, 30), 6); // 1 and 2 keep all of them
        due(x.guard(0, 32), 0);
        due(x.guard(4, 7), 8);
        due(x.guard(0, 1), -1);
        due(x.guard(0, 0), -1);
        due(x.guard(0, 64), -1);
        due(x.guard(0, -2), -1);
        due(x.guard(6, 1), -1);
        x.idle(3);
        due(x.guard(3, 1), -1);
        due(x.guard(0, 24), 0);
    }

    private static void p33() {
        promise = "33";
        SleptFor x = new SleptFor();
        int[][] cases = {
            {1, 5, 1, 1, 1, 2}, {2, 5, 1, 1, 3, 4}, {2, 5, 1, 2, 1, 4}, {2, 5, 1, 0, 1, 1}, {5, 3, 0, 5, 1, 1},
            {1, 0, 15, 1, 1, 1}, {1, 10, 1, 1, 0, 1}, {1, 10, 1, 0, 1, 1}, {1, 10, 0, 1, 1, 1}, {2, 3, 1, 3, 0, 1},
            {3, 5, 1, 2, 1, 2}, {1, 2, 2, 1, 16, 25}, {2, 1, 2, 1, 9639, 10000}};
        for (int[] c : cases) {
            due(x.enough(c[0], c[1], c[2], c[3], false), c[4]);
            due(x.enough(c[0], c[1], c[2], c[3], true), c[5]);
        }
        due(x.enough(1, 1, 15, 1, true), 1000000000000000L);
        due(x.enough(1, 1, 15, 1, false), 205891132094649L); // 9 to the 15th
        due(x.enough(5, 1, 3, 5, false), 205891132094649L);
        due(x.enough(5, 1, 3, 5, true), 1000000000000000L);
        int[][] others = {{0, 1, 1, 1}, {6, 1, 1, 1}, {1, -1, 1, 1}, {1, 11, 1, 1}, {1, 1, -1, 1}, {1, 1, 16, 1}, {2, 1, 8, 1},
            {5, 1, 4, 1}, {1, 1, 1, -1}, {1, 1, 1, 6}, {HIGH, 1, HIGH, 1}, {5, 1, 858993460, 1}};
        for (int[] c : others) due(x.enough(c[0], c[1], c[2], c[3], false), -1);
    }

    private static void owe(SleptFor x, int who, int whom, int naps) {
        x.wake(who, 0);
        x.sleep(whom, who);
        for (int i = 0; i < naps; i++) x.hour(1);
        x.idle(who);
        x.idle(whom);
    }

    private static void p34() {
        promise = "34";
        SleptFor x = plain(7, 1);
        allMay(x, 7);
        due(x.ring(-1), -1);
        due(x.ring(0), -1);
        due(x.ring(-2), -1);
        owe(x, 1, 4, 3);
        owe(x, 4, 2, 2);
        owe(x, 2, 5, 5);
        due(x.ring(-1), -1);
        owe(x, 5, 1, 4);
        due(x.ring(-1), 4);
        int[] four = {1, 4, 2, 5};
        for (int i = 0; i < 4; i++) due(x.ring(i), four[i]);
        due(x.ring(4), -1);
        due(x.ring(-2), 2);
        due(x.ring(-3), -1);
        due(x.ring(HIGH), -1);
        owe(x, 2, 1, 1); // 1 4 2 is shorter
        due(x.ring(-1), 3);
        due(x.ring(1), 4);
        due(x.ring(3), -1);
        due(x.ring(-2), 1);
        owe(x, 1, 3, 1);
        owe(x, 3, 2, 9); // 1 3 2 is ahead of 1 4 2
        due(x.ring(1), 3);
        due(x.ring(2), 2);
        owe(x, 6, 5, 3);
        owe(x, 5, 6, 2); // two are fewer
        due(x.ring(-1), 2);
        due(x.ring(0), 5);
        due(x.ring(1), 6);
        due(x.ring(-2), 2);
        due(x.repay(5, 6, 2), 0);
        due(x.ring(-1), 3);
        x = plain(8, 1);
        allMay(x, 8);
        int[] eight = {0, 7, 1, 6, 2, 5, 3, 4};
        for (int i = 0; i < 8; i++) {
            due(x.ring(-1), -1);
            owe(x, eight[i], eight[(i + 1) % 8], 2);
        }
        due(x.ring(-1), 8);
        for (int i = 0; i < 8; i++) due(x.ring(i), eight[i]);
        due(x.ring(8), -1);
        due(x.ring(-2), 2);
    }

    private static void p35and36() {
        promise = "35";
        SleptFor x = plain(8, 1);
        allMay(x, 8);
        due(x.without(0), 0);
        rule(x, "worth who+dream*50;burn 9;");
        x.wake(0, 0);
        x.wake(1, 0);
        x.sleep(2, 0);
        x.sleep(3, 0);
        x.sleep(4, 0);
        x.sleep(5, 0);
        x.sleep(6, 1);
        due(x.without(0), 2); // 6 is below 9
        due(x.without(32), 2); // 9 is left
        due(x.without(16 + 8), 3);
        due(x.without(4 + 8), 2);
        due(x.without(4 + 8 + 16), 3);
        due(x.without(255), 3);
        due(x.without(128 + 1 + 2), 2); // others in it aside
        due(x.without(256), -1);
        due(x.without(-1), -1);
        due(x.hour(1), 2);
        due(x.of(6, 5), 9);
        due(x.of(1, 11), 99);
        due(x.without(0), 2); // DREAM 0 for all
        due(x.without(4 + 8 + 16), 3);

        promise = "36";
        // 2 + 3 + 4 + 5 is 14: more than 5 must be gone
        due(x.strike(0), 4 + 16); // 6 of two; 2 and 3 are just 5
        due(x.strike(1), 0);
        due(x.strike(2), -1);
        due(x.strike(7), -1);
        due(x.strike(8), -1);
        due(x.strike(-1), -1);
        rule(x, "burn 0;");
        due(x.strike(0), -1);
        due(x.strike(1), -1);
        rule(x, "worth who;burn 10;");
        due(x.strike(0), 32); // 5 alone
    }

    private static void p37and38() {
        promise = "37";
        SleptFor x = plain(5, 1);
        allMay(x, 5);
        due(x.fits(0), -1);
        x.hour(1);
        due(x.fits(0), -1);
        x.wake(0, 0);
        x.sleep(1, 0);
        x.sleep(2, 3);
        x.sleep(4, 3);
        x.hour(1);
        due(x.fits(0), 2 + 4 + 16);
        x.idle(4);
        x.hour(1);
        due(x.fits(0), 2 + 4);
        x.idle(1);
        x.hour(1); // 0 STOPS, 2 is ASLEEP
        due(x.fits(0), 2);
        due(x.fits(1), -1);
        due(x.fits(5), -1);
        due(x.fits(-1), -1);
        x.wake(1, 0);
        x.hour(1);
        due(x.fits(1), 31 - 4); // it never RAN: all that weren't ASLEEP as it STOPPED
        x.hour(57);
        due(x.fits(0), 2); // KEPT begins with HOUR 2, the last in which it RAN
        x.hour(1);
        due(x.fits(0), 31 - 4);
        x.hour(1);
        due(x.fits(0), -1);
        due(x.fits(1), 31 - 4);
        x.hour(1);
        due(x.fits(1), -1);

        promise = "38";
        x = plain(5, 1);
        allMay(x, 5);
        due(x.forNobody(), 0);
        x.sleep(1, 0);
        x.sleep(2, 1);
        x.sleep(3, 0);
        due(x.forNobody(), 14);
        x.wake(0, 0);
        due(x.forNobody(), 4);
        x.idle(0);
        due(x.forNobody(), 14);
    }

    private static void p39to41() {
        promise = "39";
        SleptFor x = plain(3, 1);
        x.may(1, 0);
        x.wake(0, 0);
        x.sleep(1, 0);
        due(x.image(), 0);
        x.hour(3);
        due(x.image(), 3);
        int x3 = x.about(3);

        promise = "40";
        rule(x, "sound 7;");
        x.hour(2);
        x.idle(0);
        x.person(1, 1);
        x.work(1, 1);
        x.may(2, 0);
        x.hears(0, 2);
        due(x.feed(0, 0, 0, 0, 0), 20);
        due(x.back(), 3);
        due(x.about(0), 3);
        due(x.about(1), 1);
        due(x.about(2), 3);
        due(x.about(3), x3);
        due(x.about(4), 0);
        due(x.about(5), -1);
        due(x.about(6), 5);
        due(x.about(7), 1);
        due(x.about(8), 2);
        due(x.about(9), 20); // the tape stays
        due(x.fault(0), 0);
        due(x.of(2, 6), 0);
        due(x.of(0, 7), 0);
        due(x.of(0, 8), 3);
        due(x.owes(0, 1), 3);
        due(x.kept(2, 0), 1);
        due(x.kept(3, 0), -1);
        due(x.by(0), false);
        due(x.undo(), 4);
        due(x.about(2), 2);
        due(x.back(), 3); // it stays
        due(x.undo(), 4);
        x.back();
        due(text(x, "hour 0;"), -1);
        due(x.back(), 3);
        due(x.fault(0), 2);
        due(x.fault(1), 5);
        // TEXTS told ahead of it stay, and rule again
        x = plain(1, 0);
        rule(x, "sound 7;");
        x.image();
        rule(x, "sound 8;");
        due(x.of(0, 8), 8);
        x.back();
        due(x.of(0, 8), 7);
        due(x.about(4), 1);
        due(text(x, "sound 9;"), 1);
        due(x.of(0, 8), 7);
        due(x.by(1), true);
        due(x.of(0, 8), 9);
        // PEOPLE told again behind going back begin anew
        x = new SleptFor();
        allMayAndSleep(x);
        x.back();
        x.person(1, 1);
        x.person(1, 1);
        due(x.of(1, 2), 0);
        due(x.of(1, 6), 0);
        due(x.of(1, 7), 0);

        promise = "41";
        x = plain(3, 2);
        x.may(2, 0);
        x.wake(0, 0);
        x.wake(1, 1);
        x.sleep(2, 0);
        rule(x, "sound 7;");
        x.hour(1);
        tape(x, "abc");
        int[] all = {3, 2, 1, 10502, 1, 0, 4, 1, 4, 3};
        for (int i = 0; i < 10; i++) due(x.about(i), all[i]);
        due(x.about(10), -2);
        due(x.about(-1), -2);
        due(x.about(LOW), -2);
    }

    private static void allMayAndSleep(SleptFor x) {
        x.person(1, 1);
        x.person(1, 1);
        x.may(1, 0);
        x.hears(0, 1);
        x.sleep(1, 0);
    }

    public static void main(String[] args) {
        p01to05();
        p06to10();
        p11();
        p12();
        p13to15();
        p16();
        p17and18();
        p19();
        p20to23();
        p24and25();
        p26and27();
        p28to30();
        p31and32();
        p33();
        p34();
        p35and36();
        p37and38();
        p39to41();
        System.out.println(asked + " answers, " + wrong + " not as due");
        if (wrong != 0) System.exit(1);
    }
}
