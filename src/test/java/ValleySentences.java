/** The sentences ahead of the promises that are about the valley itself: part I of the Terms. */
final class ValleySentences extends Sentences {
    private ValleySentences() {
    }

    static void all() {
        use();
        told();
        fuel();
        woken();
        byHand();
        steps();
        year();
        turns();
    }

    private static void use() {
        test("use", "An object is used for at most 512 calls after it has been made; what later calls answer is free.", () -> {
            SleptFor x = new SleptFor();
            due(x.person(3, 5), 0);
            for (int call = 2; call < 512; call++) due(x.hour(1), 0);
            due(x.about(2), 510); // the 512th
        });
    }

    private static void told() {
        test("I", "PEOPLE 0 .. 7 (told one by one): DEPTH 0 .. 9, VOICE 0 .. 9.", () -> {
            SleptFor x = new SleptFor();
            int[] depths = {0, 9, 0, 9, 5, 1, 8, 3};
            int[] voices = {0, 9, 9, 0, 4, 8, 1, 3};
            for (int i = 0; i < 8; i++) {
                due(x.of(i, 0), -2);
                due(x.person(depths[i], voices[i]), i);
            }
            for (int i = 0; i < 8; i++) {
                due(x.of(i, 0), depths[i]);
                due(x.of(i, 1), voices[i]);
            }
        });
        test("I", "WORKS 0 .. 5 (told one by one): NEEDS 1 .. 99 HOURS, NOISE 0 .. 9; DONE (at first 0).", () -> {
            SleptFor x = new SleptFor();
            int[] needs = {1, 99, 1, 99, 50, 2};
            int[] noises = {0, 9, 9, 0, 5, 8};
            for (int i = 0; i < 6; i++) {
                due(x.ofWork(i, 0), -1);
                due(x.work(needs[i], noises[i]), i);
            }
            for (int i = 0; i < 6; i++) {
                due(x.ofWork(i, 0), needs[i]);
                due(x.ofWork(i, 1), noises[i]);
                due(x.ofWork(i, 2), 0);
            }
        });
        test("I", "MAY: one may sleep for an unlike one (told; at first none).", () -> {
            SleptFor x = plain(8, 0);
            for (int p = 0; p < 8; p++) due(x.of(p, 6), 0);
            due(x.may(7, 0), true);
            due(x.may(0, 7), true); // the other way is another one
            due(x.may(3, 3), false);
            due(x.of(7, 6), 1);
            due(x.of(0, 6), 128);
            due(x.of(3, 6), 0);
        });
        test("I", "HEARS: two unlike PEOPLE hear one another (told; at first none).", () -> {
            SleptFor x = plain(8, 0);
            for (int p = 0; p < 8; p++) due(x.of(p, 7), 0);
            due(x.hears(7, 0), true);
            due(x.hears(3, 3), false);
            due(x.of(7, 7), 1);
            due(x.of(0, 7), 128);
            due(x.of(3, 7), 0);
        });
        test("I", "Each PERSON is IDLE (at first), AWAKE at a WORK, or ASLEEP for a PERSON;", () -> {
            SleptFor x = free(3, 2);
            for (int p = 0; p < 3; p++) {
                due(x.of(p, 2), 0);
                due(x.of(p, 3), -1);
            }
            x.wake(1, 1);
            x.sleep(2, 0);
            int[] does = {0, 1, 2};
            int[] with = {-1, 1, 0};
            for (int p = 0; p < 3; p++) {
                due(x.of(p, 2), does[p]);
                due(x.of(p, 3), with[p]);
            }
        });
        test("I", "ON: for how many HOURS on end (0 when it begins, and if IDLE);", () -> {
            SleptFor x = free(3, 1);
            due(x.of(0, 4), 0);
            x.wake(0, 0);
            x.sleep(1, 0);
            due(x.of(0, 4), 0);
            due(x.of(1, 4), 0);
            x.hour(7);
            due(x.of(0, 4), 7);
            due(x.of(1, 4), 7);
            due(x.of(2, 4), 0); // IDLE all the time
            x.idle(1);
            due(x.of(1, 4), 0);
            x.sleep(1, 0);
            due(x.of(1, 4), 0);
            x.hour(1);
            due(x.of(0, 4), 8);
            due(x.of(1, 4), 1);
            x.call(1);
            due(x.of(1, 4), 0);
            x.hour(1); // 0 STOPS
            due(x.of(0, 4), 0);
        });
        test("I", "DREAM 0 .. 9 (at first 0).", () -> {
            SleptFor x = free(2, 0);
            due(x.of(0, 5), 0);
            x.sleep(0, 1);
            due(x.of(0, 5), 0); // it has none ahead of an HOUR
            int seen = 0;
            for (int h = 0; h < 100; h++) {
                x.hour(1);
                seen |= 1 << x.of(0, 5);
            }
            due(seen, 1023);
        });
        test("I", "OWES: one owes an unlike one so many naps (0 .. 99; at first 0).", () -> {
            SleptFor x = free(2, 1);
            for (int p = 0; p < 2; p++) for (int q = 0; q < 2; q++) due(x.owes(p, q), 0);
            x.wake(0, 0);
            x.sleep(1, 0);
            x.hour(60);
            x.hour(60);
            due(x.owes(0, 1), 99);
            due(x.owes(1, 0), 0);
            due(x.owes(0, 0), 0);
            due(x.repay(0, 1, 99), 0);
        });
        test("I", "HOUR 0 .. 999 (at first 0).", () -> {
            SleptFor x = new SleptFor();
            due(x.about(2), 0);
            for (int i = 1; i <= 27; i++) {
                due(x.hour(37), 0);
                due(x.about(2), 37 * i);
            }
            due(x.about(2), 999);
            due(x.hour(1), -1);
            due(x.about(2), 999);
        });
        test("I", "X: at first 43.", () -> due(new SleptFor().about(3), 43));
    }

    private static void fuel() {
        test("I", "AN HOUR: by number each that is ASLEEP has a DREAM: a draw by 10 (X mod 10, X being (X * 241 + 139) mod 30211 then).", () -> {
            SleptFor x = free(5, 1);
            rule(x, "burn 0;");
            x.sleep(3, 1);
            x.sleep(0, 1);
            x.sleep(2, 3);
            x.wake(4, 0); // 4 is AWAKE, 1 is IDLE: neither has one
            int now = 43;
            for (int h = 0; h < 60; h++) {
                x.hour(1);
                for (int p : new int[] {0, 2, 3}) {
                    due(x.of(p, 5), now % 10);
                    now = nextX(now);
                }
                due(x.of(1, 5) + x.of(4, 5), 0);
                due(x.about(3), now);
            }
            int last = x.of(3, 5); // who isn't ASLEEP any more has the one it had
            x.idle(3);
            x.hour(1);
            due(x.of(3, 5), last);
            x.sleep(3, 1);
            due(x.of(3, 5), last);
        });
        test("I", "Then by number each that is AWAKE: FUEL: worth of all that are ASLEEP for it, together; if that is burn or more, it RUNS:", () -> {
            for (int burn = 8; burn <= 12; burn++) {
                SleptFor x = free(6, 1);
                rule(x, "worth who;burn " + burn + ";");
                x.wake(0, 0);
                allSleep(x, 2, 0); // 2, 3, 5 are worth 10 together; 4 sleeps for another one
                x.idle(4);
                x.sleep(4, 1);
                due(x.hour(1), burn <= 10 ? 1 : 0);
                due(x.kept(0, 0), burn <= 10 ? 1 : 0);
            }
            SleptFor x = plain(1, 1);
            rule(x, "burn 0;");
            x.wake(0, 0);
            due(x.hour(1), 1); // none is 0 or more
        });
        test("I", "Then by number each that is AWAKE: FUEL: worth of all that are ASLEEP for it, together;", () -> {
            SleptFor x = free(4, 1);
            rule(x, "worth dream*9+on*7+now;burn 42+on*60;");
            x.wake(0, 0);
            x.wake(1, 0);
            x.sleep(2, 0);
            x.sleep(3, 1);
            // DREAMS by 43 and 10502: 3 and 2, so 27 and 18; ON and HOUR are those ahead of it
            due(x.hour(1), 0);
            due(x.about(7), 0);
            due(x.undo(), 4);
            rule(x, "worth dream*9+on*7+now;burn 27-on*60-who*9;");
            due(x.hour(1), 2);
            due(x.of(0, 11), 27 + 7 + 1);
        });
        test("I", "DONE of its WORK is one more (NEEDS at most)", () -> {
            SleptFor x = new SleptFor();
            for (int i = 0; i < 5; i++) x.person(0, 0);
            x.work(1, 0);
            x.work(3, 0);
            x.work(99, 0);
            rule(x, "burn 0;");
            x.wake(0, 0);
            x.wake(1, 1);
            x.wake(2, 1);
            x.wake(3, 2);
            int[][] done = {{1, 2, 1}, {1, 3, 2}, {1, 3, 3}}; // two at one WORK: 2, then 3 and not 4
            for (int[] d : done) {
                due(x.hour(1), 4); // they RUN on behind NEEDS
                for (int w = 0; w < 3; w++) due(x.ofWork(w, 2), d[w]);
            }
            x.hour(60);
            due(x.hour(35), 140);
            due(x.ofWork(2, 2), 98);
            x.hour(1);
            due(x.ofWork(2, 2), 99);
            x.hour(1);
            due(x.ofWork(2, 2), 99);
        });
        test("I", "it OWES each of those one nap more (99 at most)", () -> {
            SleptFor x = free(6, 1);
            rule(x, "worth if who=2 then 0 else 99 end;");
            x.wake(0, 0);
            x.sleep(1, 0);
            x.sleep(2, 0); // worth 0, and owed all the same
            x.sleep(3, 4);
            x.hour(1);
            int[] owed = {0, 1, 1, 0, 0, 0};
            for (int q = 0; q < 6; q++) {
                due(x.owes(0, q), owed[q]);
                due(x.owes(4, q), 0);
            }
            due(x.owes(1, 0), 0);
            x.hour(60);
            x.hour(37);
            due(x.owes(0, 1), 98);
            x.hour(1);
            due(x.owes(0, 1), 99);
            due(x.hour(1), 1);
            due(x.owes(0, 1), 99);
            due(x.owes(0, 2), 99);
        });
        test("I", "else it STOPS.", () -> {
            SleptFor x = free(3, 1);
            rule(x, "worth 9;");
            x.wake(0, 0);
            x.wake(2, 0);
            x.sleep(1, 0);
            due(x.hour(1), 0); // 9 is below 10
            due(x.kept(0, 1), 5);
            due(x.owes(0, 1), 0);
            due(x.ofWork(0, 2), 0);
            due(x.about(8), 2); // who slept for it sleeps on
        });
    }

    private static void woken() {
        test("I", "Then NOISE: each that is ASLEEP and HEARS one that RUNS whose WORK's NOISE is above its sound is WOKEN;", () -> {
            for (int noise = 0; noise < 10; noise++) {
                for (int sound = 0; sound < 10; sound++) {
                    SleptFor x = folk(0, sound * 10, sound * 10);
                    x.work(9, 9 - noise);
                    x.work(9, noise);
                    x.may(1, 0);
                    x.may(2, 0);
                    x.hears(0, 1);
                    x.wake(0, 1);
                    x.sleep(1, 0);
                    x.sleep(2, 0); // doesn't hear it
                    due(x.hour(1), 1);
                    due(x.about(8), noise > sound ? 4 : 6);
                }
            }
        });
        test("I", "each that is ASLEEP and HEARS one that RUNS whose WORK's NOISE is above its sound", () -> {
            // one that STOPS makes none, one that is AWAKE isn't WOKEN
            for (int runs = 0; runs < 8; runs++) {
                SleptFor y = folk(0, 0, 0, 0, 0, 0, 0, 0);
                y.work(9, 1);
                allMay(y);
                for (int p = 0; p < 8; p++) if (p != (runs + 3) % 8) y.hears(runs, p);
                y.wake(runs, 0);
                for (int p = 0; p < 8; p++) y.sleep(p, runs);
                due(y.hour(1), 1);
                due(y.about(8), 1 << (runs + 3) % 8); // it alone didn't hear that one
            }
            SleptFor x = folk(0, 0, 0);
            x.work(9, 9);
            x.may(2, 0);
            allHear(x);
            rule(x, "burn if who=0 then 99 else 0 end;");
            x.wake(0, 0);
            x.sleep(2, 0);
            x.hour(1);
            due(x.kept(0, 1), 1);
            due(x.about(8), 4);
            x.wake(1, 0);
            rule(x, "burn 0;");
            x.wake(0, 0);
            due(x.hour(1), 2);
            due(x.about(8), 0);
            due(x.about(7), 3);
            // the sound is the one of that HOUR: by ON 0 and HOUR 0 the least NOISE is above it
            x = rule(folk(0, 0), "sound on+now;");
            x.work(9, 1);
            x.may(1, 0);
            x.hears(0, 1);
            x.wake(0, 0);
            x.sleep(1, 0);
            due(x.hour(1), 1);
            due(x.about(8), 0);
            x.sleep(1, 0);
            due(x.hour(1), 1); // by HOUR 1 it isn't
            due(x.about(8), 2);
            // the VOICE of one that RUNS wakes nobody
            x = folk(9, 10);
            x.work(9, 1);
            x.may(1, 0);
            x.hears(0, 1);
            x.wake(0, 0);
            x.sleep(1, 0);
            due(x.hour(1), 1);
            due(x.about(8), 2);
        });
        test("I", "then round by round each that is ASLEEP, not WOKEN yet, and HEARS a WOKEN one whose VOICE is above its sound.", () -> {
            for (int voice = 0; voice < 10; voice++) {
                for (int sound = 0; sound < 10; sound++) {
                    SleptFor x = folk(0, voice, sound * 10 + 9);
                    x.work(9, 9);
                    x.may(1, 0);
                    x.may(2, 0);
                    x.hears(0, 1);
                    x.hears(1, 2);
                    x.wake(0, 0);
                    x.sleep(1, 0);
                    x.sleep(2, 0);
                    due(x.hour(1), 1);
                    due(x.about(8), voice > sound ? 0 : 4);
                }
            }
        });
        test("I", "then round by round each that is ASLEEP, not WOKEN yet,", () -> {
            for (int up = 0; up < 2; up++) {
                // 0 wakes the first one, each of them the next: by rising and by falling numbers
                SleptFor x = folk(0, 1, 1, 1, 1, 1, 1, 1);
                x.work(9, 9);
                allMay(x);
                x.hears(0, up == 1 ? 1 : 7);
                for (int p = 1; p < 7; p++) x.hears(p, p + 1);
                x.wake(0, 0);
                allSleep(x, 1, 0);
                due(x.hour(1), 1);
                due(x.about(8), 0);
                due(x.undo(), 8);
                x.idle(4); // who isn't ASLEEP passes nothing on
                due(x.hour(1), 1);
                due(x.about(8), up == 1 ? 0b11100000 : 0b1110);
            }
            // one that STOPS isn't WOKEN: its VOICE wakes nobody
            SleptFor x = folk(9, 9);
            x.work(9, 9);
            x.may(1, 0);
            x.hears(0, 1);
            rule(x, "burn 99;");
            x.wake(0, 0);
            x.sleep(1, 0);
            due(x.hour(1), 0);
            due(x.about(7), 0);
            due(x.about(8), 2);
        });
        test("I", "Those that STOPPED or were WOKEN are IDLE; ON of all others that aren't IDLE is one more.", () -> {
            SleptFor x = folk(0, 0, 90, 0, 0);
            x.work(9, 9);
            allMay(x);
            allHear(x);
            x.wake(0, 0);
            x.wake(3, 0);
            x.sleep(1, 0);
            x.sleep(2, 0);
            due(x.hour(1), 1);
            int[] does = {1, 0, 2, 0, 0}; // 1 is WOKEN, 3 STOPPED
            int[] on = {1, 0, 1, 0, 0};
            for (int p = 0; p < 5; p++) {
                due(x.of(p, 2), does[p]);
                due(x.of(p, 4), on[p]);
            }
            due(x.of(1, 3), -1);
            due(x.of(3, 3), -1);
        });
        test("I", "It is kept who RAN, who STOPPED, who was ASLEEP (at the beginning); HOUR is one more.", () -> {
            SleptFor x = folk(0, 0, 90, 0, 0);
            x.work(9, 9);
            allMay(x);
            allHear(x);
            x.wake(0, 0);
            x.wake(3, 0);
            x.sleep(1, 0);
            x.sleep(2, 0);
            x.hour(1);
            due(x.kept(0, 0), 1);
            due(x.kept(0, 1), 8);
            due(x.kept(0, 2), 6); // 1 as well, though it was WOKEN
            due(x.about(2), 1);
        });
    }

    private static void byHand() {
        test("I", "AWAKE: an IDLE one gets AWAKE at a WORK.", () -> {
            SleptFor x = free(3, 2);
            due(x.wake(0, 1), true);
            x.sleep(1, 0);
            refused(x, () -> x.wake(0, 0), () -> x.wake(0, 1), () -> x.wake(1, 0));
            due(x.wake(2, 1), true); // two at one WORK
            rule(x, "burn 0;");
            x.hour(9);
            x.idle(2);
            due(x.ofWork(1, 2), 9);
            due(x.wake(2, 1), true); // DONE or not
        });
        test("I", "ASLEEP: an IDLE one falls ASLEEP for one it MAY sleep for (whatever that one does).", () -> {
            SleptFor x = plain(6, 1);
            for (int p = 1; p < 6; p++) x.may(p, p - 1);
            x.may(0, 1);
            x.wake(0, 0);
            due(x.sleep(1, 0), true); // for one that is AWAKE
            due(x.sleep(2, 1), true); // ASLEEP
            due(x.sleep(4, 3), true); // IDLE
            due(x.sleep(3, 2), true);
            refused(x, () -> x.sleep(5, 3), () -> x.sleep(0, 1), () -> x.sleep(1, 0), () -> x.sleep(5, 5));
            x.idle(0);
            due(x.sleep(0, 1), true); // two for one another
        });
        test("I", "IDLED: one that isn't IDLE is.", () -> {
            SleptFor x = free(3, 1);
            x.wake(0, 0);
            x.sleep(1, 0);
            x.hour(2);
            due(x.idle(0), true);
            due(x.idle(1), true);
            refused(x, () -> x.idle(0), () -> x.idle(1), () -> x.idle(2));
            for (int p = 0; p < 3; p++) {
                due(x.of(p, 2), 0);
                due(x.of(p, 3), -1);
                due(x.of(p, 4), 0);
            }
        });
        test("I", "CALLED: one that is ASLEEP is WOKEN, and by rounds of VOICES all others as in an HOUR; all these are IDLE.", () -> {
            for (int voice = 0; voice < 10; voice++) {
                for (int sound = 0; sound < 10; sound++) {
                    SleptFor x = folk(90 + voice, sound * 10);
                    allMay(x);
                    allHear(x);
                    x.sleep(0, 1);
                    x.sleep(1, 0);
                    due(x.call(0), voice > sound ? 2 : 1); // it is WOKEN however sound it sleeps
                    due(x.about(8), voice > sound ? 0 : 2);
                }
            }
            SleptFor x = folk(9, 9, 9, 9, 9, 9, 9, 9);
            x.work(9, 0);
            allMay(x);
            for (int p = 0; p < 7; p++) x.hears(p, p + 1);
            for (int p = 0; p < 8; p++) x.sleep(p, (p + 1) % 8);
            due(x.call(7), 8);
            due(x.undo(), 8);
            due(x.call(0), 8);
            due(x.undo(), 8);
            x.idle(5);
            x.wake(5, 0); // one that is AWAKE neither is WOKEN nor passes it on
            due(x.call(0), 5);
            due(x.about(8), 0b11000000);
            due(x.about(7), 32);
        });
        test("I", "REPAID: what one OWES another one is less by k (1 .. what it is).", () -> {
            SleptFor x = free(3, 1);
            x.wake(0, 0);
            x.sleep(1, 0);
            x.sleep(2, 0);
            x.hour(5);
            refused(x, -1, () -> x.repay(0, 1, 0), () -> x.repay(0, 1, -1), () -> x.repay(0, 1, 6), () -> x.repay(0, 1, HIGH), () -> x.repay(0, 1, LOW));
            due(x.repay(0, 1, 1), 4);
            due(x.repay(0, 1, 4), 0);
            refused(x, -1, () -> x.repay(0, 1, 1), () -> x.repay(0, 1, 0));
            due(x.owes(0, 2), 5);
        });
    }

    private static void steps() {
        test("I", "STEPS: an HOUR (each), AWAKE, ASLEEP, IDLED, CALLED, REPAID, A YEAR (see below):", () -> {
            SleptFor x = new SleptFor();
            x.person(3, 5);
            x.person(3, 5);
            x.work(9, 0);
            x.may(1, 0);
            x.hears(0, 1);
            rule(x, "burn 0;");
            x.image();
            due(x.about(6), 0); // none of these is one
            x.wake(0, 0);
            due(x.about(6), 1);
            x.sleep(1, 0);
            due(x.about(6), 2);
            x.hour(3);
            due(x.about(6), 5);
            x.repay(0, 1, 1);
            due(x.about(6), 6);
            x.call(1);
            due(x.about(6), 7);
            x.idle(0);
            due(x.about(6), 8);
            x.year(5, 30);
            due(x.about(6), 9);
            x.year(0, 1);
            due(x.about(6), 10);
        });
        test("I", "the latest 30 can be taken back, the latest first", () -> {
            SleptFor x = plain(1, 0);
            x.hour(29);
            due(x.about(6), 29);
            x.hour(1);
            due(x.about(6), 30);
            x.hour(1);
            due(x.about(6), 30);
            takenBack(x, 30, 30, 31);
            due(x.undo(), -1);
            due(x.about(2), 1); // the first of 31 stays
            x.hour(45); // the places go round
            takenBack(x, 10, 30, 46);
            x.hour(15);
            takenBack(x, 30, 30, 51);
            due(x.undo(), -1);
            due(x.about(2), 21);
        });
        test("I", "(DONE, what all do, ON, DREAMS, OWES, KEPT, HOUR, X are as ahead of it;", () -> {
            SleptFor x = folk(15, 28);
            x.work(9, 0);
            x.may(1, 0);
            String[] ahead = new String[7];
            ahead[0] = doings(x);
            x.wake(0, 0);
            ahead[1] = doings(x);
            x.sleep(1, 0);
            ahead[2] = doings(x);
            x.hour(1);
            ahead[3] = doings(x);
            x.repay(0, 1, 1);
            ahead[4] = doings(x);
            x.year(seed(8, 5, 10, 1, 8, 7), 2);
            ahead[5] = doings(x);
            x.call(1);
            ahead[6] = doings(x);
            x.idle(0);
            for (int left = 6; left >= 0; left--) {
                due(x.undo(), left);
                due(doings(x), ahead[left]);
            }
        });
        test("I", "DONE, what all do, ON, DREAMS, OWES,", () -> {
            SleptFor x = free(8, 6);
            x.hour(7);
            for (int p = 0; p < 4; p++) x.wake(p, p + 2);
            for (int p = 4; p < 8; p++) x.sleep(p, 7 - p);
            x.hour(3);
            String ahead = doings(x); // of eight PEOPLE and six WORKS
            due(x.year(seed(8, 5, 10, 0, 10, 1, 10, 2), 1), 4);
            due(doings(x).equals(ahead), false);
            x.undo();
            due(doings(x), ahead);
        });
        test("I", "OWES, KEPT, HOUR, X are as ahead of it;", () -> {
            SleptFor x = free(2, 1);
            x.wake(0, 0);
            x.sleep(1, 0);
            x.hour(60);
            due(x.kept(0, 0), 1);
            x.hour(1);
            due(x.kept(0, 0), -1);
            due(x.kept(60, 0), 1);
            x.undo(); // HOUR 0 is KEPT again, HOUR 60 isn't yet
            due(x.kept(0, 0), 1);
            due(x.kept(60, 0), -1);
            x.idle(1);
            x.hour(1); // 0 STOPS in it now
            due(x.kept(60, 0), 0);
            due(x.kept(60, 1), 1);
            // what was told stays told
            x.person(0, 0);
            x.work(1, 1);
            x.may(2, 1);
            x.hears(2, 1);
            rule(x, "sound 7;");
            x.undo();
            due(x.about(0), 3);
            due(x.about(1), 2);
            due(x.of(2, 6), 2);
            due(x.of(2, 7), 2);
            due(x.of(2, 8), 7);
            due(x.about(5), 0);
        });
        test("I", "PEOPLE told since are IDLE and owe nothing, and are owed nothing; DONE of WORKS told since is 0).", () -> {
            SleptFor x = free(1, 1);
            rule(x, "burn 0;");
            x.wake(0, 0);
            x.person(0, 0);
            x.person(0, 0);
            x.work(9, 0);
            allMay(x);
            x.sleep(1, 0);
            x.wake(2, 1);
            x.hour(2);
            x.idle(0);
            x.sleep(0, 2);
            x.hour(1);
            due(x.owes(0, 1), 2);
            due(x.owes(2, 0), 1);
            due(x.ofWork(1, 2), 3);
            for (int left = 7; left >= 0; left--) due(x.undo(), left);
            due(x.about(0), 3);
            due(x.about(1), 2);
            due(x.about(7) + x.about(8), 0);
            for (int p = 0; p < 3; p++) {
                due(x.of(p, 3), -1);
                due(x.of(p, 4) + x.of(p, 5), 0);
                for (int q = 0; q < 3; q++) due(x.owes(p, q), 0);
            }
            due(x.ofWork(1, 2), 0);
        });
    }

    /** So many HOURS are taken back, one by one. */
    private static void takenBack(SleptFor x, int times, int steps, int hour) {
        for (int i = 1; i <= times; i++) {
            due(x.undo(), steps - i);
            due(x.about(2), hour - i);
        }
    }

    private static void year() {
        test("I", "A YEAR by a SEED: X is SEED (0 .. 9999) * 2 + 43; n times (1 .. 30):", () -> {
            for (int seed : new int[] {0, 1, 4999, 9998, 9999}) {
                for (int n : new int[] {1, 2, 29, 30}) {
                    SleptFor x = plain(1, 0);
                    x.hour(5);
                    due(x.year(seed, n), 0);
                    // without WORKS nobody is AWAKE; below 3 and 4 draw a PERSON, 3 and an HOUR nothing
                    int now = seed * 2 + 43;
                    int hours = 5;
                    for (int i = 0; i < n; i++) {
                        int turn = now % 8;
                        now = xAfter(now, turn < 3 || turn == 4 ? 2 : 1);
                        hours += turn > 4 ? 1 : 0;
                    }
                    due(x.about(3), now);
                    due(x.about(2), hours);
                }
            }
        });
        test("I", "else an HOUR (999 stays: then none).", () -> {
            for (int turn = 5; turn < 8; turn++) {
                // a turn of 3 draws nothing more without WORKS
                int seed = seed(8, 3, 8, turn);
                SleptFor x = free(2, 0);
                x.sleep(0, 1);
                x.year(seed, 2);
                due(x.about(2), 1);
                due(x.kept(0, 2), 1);
                due(x.about(3), xAfter(seed * 2 + 43, 3)); // with a DREAM
            }
            SleptFor x = rule(free(2, 1), "burn 0;");
            for (int i = 0; i < 26; i++) x.hour(38);
            x.hour(10);
            due(x.about(2), 998);
            x.wake(0, 0);
            int seed = seed(8, 5, 8, 6, 8, 7);
            due(x.year(seed, 3), 1); // the first HOUR is the last one
            due(x.about(2), 999);
            due(x.about(3), xAfter(seed * 2 + 43, 3));
            due(x.of(0, 4), 1);
            x.sleep(1, 0);
            due(x.year(seed, 2), 0);
            due(x.about(2), 999);
            due(x.about(3), xAfter(seed * 2 + 43, 2)); // no HOUR, no DREAM
            due(x.of(1, 4), 0);
        });
        test("I", "It is one STEP: how many RAN in all these HOURS together.", () -> {
            SleptFor x = rule(free(4, 1), "burn if on>1 then 99 else 0 end;");
            x.wake(0, 0);
            x.wake(2, 0);
            x.wake(3, 0);
            String ahead = doings(x);
            due(x.about(6), 3);
            due(x.year(seed(8, 5, 8, 6, 8, 7), 3), 6); // all RUN twice, then STOP
            due(x.about(6), 4);
            due(x.about(7), 0);
            due(x.kept(2, 1), 13);
            due(x.undo(), 3);
            due(doings(x), ahead);
        });
    }

    private static void turns() {
        test("I", "a draw by 8: below 3: a PERSON drawn by how many there are; if it is IDLE, it falls ASLEEP for the lowest it MAY sleep for that is AWAKE, else for nobody (nothing is done);", () -> {
            for (int turn = 0; turn < 3; turn++) {
                SleptFor x = rule(plain(4, 1), "burn 0;");
                for (int q = 3; q > 0; q--) x.may(0, q);
                x.wake(2, 0);
                x.wake(1, 0);
                // an HOUR in which nobody is ASLEEP, and draws nothing; then PERSON 0
                int seed = seed(8, 5, 8, turn, 4, 0);
                due(x.year(seed, 2), 2);
                due(x.about(8), 1);
                due(x.of(0, 3), 1);
                due(x.of(0, 4), 0);
                due(x.about(3), xAfter(seed * 2 + 43, 3));
                x.undo();
                x.idle(1);
                due(x.year(seed, 2), 1);
                due(x.of(0, 3), 2);
                x.undo();
                x.idle(2);
                due(x.year(seed, 2), 0);
                due(x.about(8), 0); // for nobody
                due(x.about(3), xAfter(seed * 2 + 43, 3));
                x.wake(3, 0);
                x.wake(0, 0);
                due(x.year(seed, 2), 2);
                due(x.of(0, 2), 1); // AWAKE it stays so
                x.idle(0);
                x.sleep(0, 2);
                due(x.year(seed(8, 5, 10, 7, 8, turn, 4, 0), 2), 1);
                due(x.of(0, 3), 2); // ASLEEP for whom it is
            }
            for (int people = 2; people <= 8; people++) {
                SleptFor x = rule(free(people, 1), "burn 0;");
                x.wake(0, 0);
                x.year(seed(8, 5, 8, 0, people, people - 1), 2);
                due(x.about(8), 1 << people - 1);
            }
        });
        test("I", "3: a PERSON drawn gets AWAKE at a WORK drawn by how many there are (both drawn; without WORKS nothing is drawn), if it is IDLE;", () -> {
            for (int works = 1; works <= 6; works++) {
                SleptFor x = free(5, works);
                int seed = seed(8, 3, 5, 4, works, works - 1);
                due(x.year(seed, 1), 0);
                due(x.about(7), 16);
                due(x.of(4, 3), works - 1);
                due(x.of(4, 4), 0);
                due(x.about(3), xAfter(seed * 2 + 43, 3));
                due(x.year(seed(8, 3, 5, 4, works, 0), 1), 0);
                due(x.of(4, 3), works - 1); // AWAKE it stays at its WORK
                x.idle(4);
                x.sleep(4, 0);
                due(x.year(seed, 1), 0);
                due(x.about(8), 16);
                due(x.about(3), xAfter(seed * 2 + 43, 3)); // both are drawn for nothing
            }
            SleptFor x = plain(5, 0);
            int seed = seed(8, 3);
            due(x.year(seed, 1), 0);
            due(x.about(3), nextX(seed * 2 + 43));
            due(x.about(7), 0);
        });
        test("I", "4: a PERSON drawn is CALLED, if it is ASLEEP;", () -> {
            SleptFor x = folk(9, 9, 9, 9);
            allMay(x);
            x.hears(0, 1);
            x.hears(1, 3);
            x.hears(2, 3);
            x.sleep(0, 1);
            x.sleep(1, 0);
            x.sleep(2, 0);
            int seed = seed(8, 3, 8, 4, 4, 0);
            due(x.year(seed, 2), 0);
            due(x.about(8), 4); // 1 by its VOICE; 3 is IDLE, so 2 sleeps on
            due(x.about(3), xAfter(seed * 2 + 43, 3));
            due(x.about(6), 4);
            seed = seed(8, 3, 8, 4, 4, 3);
            due(x.year(seed, 2), 0);
            due(x.about(8), 4); // 3 isn't ASLEEP
            due(x.about(3), xAfter(seed * 2 + 43, 3));
            x = rule(plain(4, 1), "burn 0;");
            x.wake(3, 0);
            due(x.year(seed(8, 5, 8, 4, 4, 3), 2), 1);
            due(x.about(7), 8); // one that is AWAKE isn't
        });
    }
}
