/** The sentences ahead of the promises that are about TEXTS: part II of the Terms. */
final class TextSentences extends Sentences {
    private static final String[] LAWS = {"worth", "burn", "sound", "price"};
    private static final String DEEDS = "wake 0 at 1 ; sleep 2 for 3 ; idle 4 ; call 5 ; repay 6 to 7 by 8 ; hour 9 ;";
    private static final String EVERYTHING = "worth who + 1 * ( 2 - - 3 ) / if not 1 < 2 and 3 # 4 or 5 >= 6 then 7 else 8 end ; "
            + "burn 1 ; sound 2 ; price 3 ; " + DEEDS;

    private TextSentences() {
    }

    static void all() {
        tokens();
        clauses();
        deeds();
        sums();
        names();
        steps();
        faults();
        laterFaults();
        rules();
        played();
    }

    private static void tokens() {
        test("II", "TEXTS 0 .. 3: of up to 300 bytes.", () -> {
            SleptFor x = new SleptFor();
            for (int i = 0; i < 4; i++) due(text(x, "hour 1;"), i);
            due(text(x, "hour 1;"), -1);
            due(x.about(4), 4);
            good(" ".repeat(293) + "hour 1;");
            faulty(" ".repeat(294) + "hour 1", 1, 300);
            faulty(" ".repeat(299) + "@", 1, 299);
            good("worth" + "1+".repeat(146) + "1;\n");
            good("sound if " + "1<2and ".repeat(38) + "1<2then 1else 2end;");
            faulty(";".repeat(300), 1, 0); // as many TOKENS as there can be
            faulty(";".repeat(299) + "1", 1, 0);
            faulty("worth" + "-1".repeat(147) + "-", 1, 300);
            x = plain(1, 0);
            for (int i = 0; i < 4; i++) { // each as long as can be, with such as have FAULTS between them
                due(text(x, "sound" + "1-1+".repeat(73) + "10;"), i);
                due(text(x, "sound" + "1-1+".repeat(73) + "10)"), -1);
                x.by(i);
                due(x.of(0, 8), 10);
            }
        });
        test("II", "TOKENS, blanks (32, 10) aside:", () -> {
            good("");
            good(" \n ");
            good("\n hour\n 1 ; ");
            good("hour1;");
            for (int b = 0; b < 256; b++) {
                char sign = (char) b;
                boolean letter = b >= 'a' && b <= 'z' || b >= 'A' && b <= 'Z';
                if (b == 32 || b == 10 || b >= '0' && b <= '9') {
                    good("hour 1" + sign + ";");
                } else {
                    faulty("hour 1" + sign + ";", 1, b == ';' ? 7 : 6);
                    faulty("hour" + sign + "1;", 1, letter ? 0 : 4);
                }
            }
            faulty("ho ur 1;", 1, 0); // a blank ends a TOKEN
            faulty("hour 1 2;", 1, 7);
            faulty("worth if 1<\n=2 then 1 else 2 end;", 1, 12);
        });
        test("II", "letters a .. z, A .. Z one behind the other (one TOKEN),", () -> {
            faulty("hourhour 1;", 1, 0);
            faulty("HOUR 1;", 1, 0);
            faulty("houR 1;", 1, 0);
            for (char c : new char[] {'a', 'z', 'A', 'Z'}) faulty("worth who" + c + ";", 1, 6);
            for (char c : new char[] {'`', '{', '@', '[', '_'}) faulty("worth who" + c + ";", 1, 9);
            faulty("worth" + "a".repeat(295), 1, 0);
            good("worth(who)*if(1)<2then-1else(2)end;");
        });
        test("II", "digits likewise (NUMBERS, 0 .. 9999),", () -> {
            good("worth 0;");
            good("worth 9999;");
            good("worth 0000000009999;");
            faulty("worth 10000;", 2, 6);
            faulty("worth 4294967296;", 2, 6);
            faulty("worth " + "9".repeat(293) + ";", 2, 6);
            value("000012", 12);
            faulty("worth 1/;", 1, 8);
            faulty("worth 1:;", 1, 7);
            faulty("worth 1who;", 1, 7);
        });
        test("II", "<= >= < > = # + - * / ( ) ; (the longest).", () -> {
            String[] asks = {"<=", ">=", "<", ">", "=", "#"};
            for (String ask : asks) good("worth if 1" + ask + "2 then 1 else 2 end;");
            faulty("worth if 1=<2 then 1 else 2 end;", 1, 11);
            faulty("worth if 1=>2 then 1 else 2 end;", 1, 11);
            faulty("worth if 1<>2 then 1 else 2 end;", 1, 11);
            faulty("worth if 1==2 then 1 else 2 end;", 1, 11);
            faulty("worth if 1<==2 then 1 else 2 end;", 1, 12); // <= and =
            faulty("worth if 1>==2 then 1 else 2 end;", 1, 12);
            faulty("worth if 1< =2 then 1 else 2 end;", 1, 12);
            faulty("worth if 1#=2 then 1 else 2 end;", 1, 11);
            good("worth 1+2-3*4/(5);");
            faulty("worth 1!2;", 1, 7);
            faulty("worth if 1!=2 then 1 else 2 end;", 1, 10);
            so("1<=1", true);
            so("2>=2", true);
        });
    }

    private static void clauses() {
        test("II", "{CLAUSE}, 24 at most:", () -> {
            good("");
            for (int n = 1; n <= 24; n++) good("hour 1;".repeat(n));
            faulty("hour 1;".repeat(25), 6, 168);
            good("worth 1;burn 1;sound 1;price 1;" + "hour 1;".repeat(20));
            faulty("worth 1;burn 1;sound 1;price 1;" + "hour 1;".repeat(21), 6, 171);
        });
        test("II", "worth SUM ; or burn SUM ; or sound SUM ; or price SUM ; (each once)", () -> {
            for (String law : LAWS) {
                good(law + " 1;");
                good(law + " 1+2;");
                faulty(law + " 1;" + law + " 1;", 4, law.length() + 3);
                faulty(law + ";", 1, law.length());
                faulty(law + " 1", 1, law.length() + 2);
            }
            good("price 1;sound 1;burn 1;worth 1;");
            SleptFor x = free(2, 1); // each says what it is for, in any order
            rule(x, "price 4;hour 1;sound 3;burn 2;worth 1;");
            x.wake(0, 0);
            x.sleep(1, 0);
            due(x.of(1, 10), 1);
            due(x.of(0, 9), 2);
            due(x.of(0, 8), 3);
        });
    }

    private static void deeds() {
        test("II", "or wake NUMBER at NUMBER ; (PERSON, WORK)", () -> {
            SleptFor x = plain(8, 6);
            due(x.played(text(x, "wake 7 at 5;wake 0 at 3;")), -1);
            due(x.of(7, 3), 5);
            due(x.of(0, 3), 3);
            due(x.about(7), 129);
        });
        test("II", "or sleep NUMBER for NUMBER ;", () -> {
            SleptFor x = free(8, 0);
            due(x.played(text(x, "sleep 7 for 3;sleep 0 for 7;")), -1);
            due(x.of(7, 3), 3);
            due(x.of(0, 3), 7);
            due(x.about(8), 129);
        });
        test("II", "or idle NUMBER ;", () -> {
            SleptFor x = plain(8, 1);
            x.wake(7, 0);
            x.wake(0, 0);
            due(x.played(text(x, "idle 7;")), -1);
            due(x.about(7), 1);
        });
        test("II", "or call NUMBER ;", () -> {
            SleptFor x = free(8, 0);
            x.hears(6, 7);
            x.sleep(6, 0);
            x.sleep(7, 0);
            x.sleep(1, 0);
            due(x.played(text(x, "call 7;")), -1);
            due(x.about(8), 2); // 6 by its VOICE, 5 above 3
        });
        test("II", "or repay NUMBER to NUMBER by NUMBER ; (who OWES, whom, k)", () -> {
            SleptFor x = free(8, 1);
            x.wake(6, 0);
            x.sleep(7, 6);
            x.hour(60);
            x.hour(60);
            due(x.played(text(x, "repay 6 to 7 by 1;repay 6 to 7 by 90;")), -1);
            due(x.owes(6, 7), 8);
            x.hour(60);
            x.hour(60);
            due(x.played(text(x, "repay 6 to 7 by 99;")), -1);
            due(x.owes(6, 7), 0);
            due(x.owes(7, 6), 0);
        });
        test("II", "or hour NUMBER ; (so many).", () -> {
            SleptFor x = plain(1, 0);
            due(x.played(text(x, "hour 60;hour 1;")), -1);
            due(x.about(2), 61);
        });
    }

    private static void sums() {
        test("II", "SUM: PRODUCT {+ or - PRODUCT}.", () -> {
            value("7", 7);
            value("2+3*4", 14);
            value("2*3+4", 10);
            value("20-2*3-4/2", 12);
            value("1+2+3-4+5", 7);
            faulty("worth 1+;", 1, 8);
            faulty("worth 1+*2;", 1, 8);
            faulty("worth +1;", 1, 6);
            good("worth " + "1+".repeat(146) + "1;");
        });
        test("II", "PRODUCT: ONE {* or / ONE}.", () -> {
            value("2*3*4", 24);
            value("90/3/5", 6);
            value("90/(3*5)", 6);
            value("7*3/2", 10);
            faulty("worth 1*;", 1, 8);
            faulty("worth 1 2;", 1, 8);
            good("worth " + "1*".repeat(146) + "1;");
        });
        test("II", "ONE: NUMBER, NAME, ( SUM ), - ONE, or if EITHER then SUM else SUM end.", () -> {
            value("5", 5);
            value("who", 2);
            value("(2+3)*4", 20);
            value("((5))", 5);
            value("--5", 5);
            value("9--5", 14);
            value("9-(-5)", 14);
            value("9*-1+12", 3);
            value("-(5-9)", 4);
            value("-if 1<2 then -6 else 7 end", 6);
            value("if 1<2 then 3+4 else 5 end*2", 14);
            value("1+if 2<1 then 3 else 4-1 end-2", 2);
            faulty("worth ();", 1, 7);
            faulty("worth (1;", 1, 8);
            faulty("worth 1);", 1, 7);
            faulty("worth -;", 1, 7);
            faulty("worth if 1<2 then 3 end;", 1, 20);
            faulty("worth if 1<2 else 3 end;", 1, 13);
            faulty("worth if 1<2 then 3 else 4;", 1, 26);
            faulty("worth if then 3 else 4 end;", 1, 9);
            faulty("worth 1<2;", 1, 7);
        });
        test("II", "EITHER: BOTH {or BOTH}.", () -> {
            for (int bits = 0; bits < 8; bits++) {
                so(yes(bits & 1) + " or " + yes(bits & 2) + " or " + yes(bits & 4), bits != 0);
                so(yes(bits & 1) + " or " + yes(bits & 2) + " and " + yes(bits & 4), (bits & 1) != 0 || bits >= 6);
                so(yes(bits & 1) + " and " + yes(bits & 2) + " or " + yes(bits & 4), bits >= 3);
            }
            faulty("worth if 1<2 or then 1 else 2 end;", 1, 16);
        });
        test("II", "BOTH: ASK {and ASK}.", () -> {
            for (int bits = 0; bits < 8; bits++) so(yes(bits & 1) + " and " + yes(bits & 2) + " and " + yes(bits & 4), bits == 7);
            faulty("worth if 1<2 and then 1 else 2 end;", 1, 17);
            faulty("worth if and 1<2 then 1 else 2 end;", 1, 9);
        });
        test("II", "ASK: not ASK, or SUM one of < <= > >= = # (unlike) SUM.", () -> {
            String[] asks = {"<", "<=", ">", ">=", "=", "#"};
            boolean[][] want = {{true, false, false}, {true, true, false}, {false, false, true}, {false, true, true}, {false, true, false}, {true, false, true}};
            for (int a = 0; a < 6; a++) {
                for (int d = 0; d < 3; d++) {
                    so("4" + asks[a] + (5 - d), want[a][d]); // below, like, above
                    so("not 4" + asks[a] + (5 - d), !want[a][d]);
                    so("not not 0-4" + asks[a] + "0-" + (3 + d), want[a][d]);
                }
            }
            so("not 1=2 and 1=2", false); // not is of the next ASK alone
            so("not 1=1 or 1=1", true);
            so("1+2*3=14/2", true);
            faulty("worth if 1 then 2 else 3 end;", 1, 11);
            faulty("worth if (1<2) then 2 else 3 end;", 1, 11);
            faulty("worth if 1<2<3 then 2 else 3 end;", 1, 12);
            faulty("worth if not then 2 else 3 end;", 1, 13);
            faulty("worth if 1< then 2 else 3 end;", 1, 12);
            faulty("worth not 1<2;", 1, 6);
        });
    }

    private static String yes(int bit) {
        return bit != 0 ? "1=1" : "1=2";
    }

    /** HOUR 4; 1 is AWAKE at WORK 1 of NOISE 6 for 4 HOURS, 2 of DEPTH 7 ASLEEP for it for one, with DREAM 3. */
    private static SleptFor named(String rule) {
        SleptFor x = folk(10, 41, 72);
        x.work(9, 9);
        x.work(9, 6);
        x.may(2, 1);
        rule(x, "burn 0;");
        x.wake(1, 1);
        x.hour(3);
        x.sleep(2, 1);
        x.hour(1);
        return rule(x, rule);
    }

    private static void named(String law, String name, int want) {
        SleptFor x = named(law + " " + name + ";");
        switch (law) {
            case "worth": due(x.of(2, 10), want); break;
            case "burn": due(x.of(1, 9), want); break;
            case "sound": due(x.of(2, 8), want); break;
            default: due(x.match(2, 1, 4, true, -1), want); break;
        }
    }

    private static void names() {
        test("II", "NAMES: who (the PERSON), now (HOUR) in all;", () -> {
            for (String law : LAWS) {
                named(law, "who", law.equals("burn") ? 1 : 2);
                named(law, "now", 4);
            }
        });
        test("II", "on (its ON) in worth, burn, sound;", () -> {
            named("worth", "on", 1);
            named("burn", "on", 4);
            named("sound", "on", 1);
            SleptFor x = named("sound on;");
            due(x.of(1, 8), 4); // AWAKE
            due(x.of(0, 8), 0); // IDLE
            faulty("price on;", 5, 6);
        });
        test("II", "depth in worth, sound, price;", () -> {
            named("worth", "depth", 7);
            named("sound", "depth", 7);
            named("price", "depth", 7);
            faulty("burn depth;", 5, 5);
        });
        test("II", "dream, whom (for whom it is ASLEEP) in worth;", () -> {
            named("worth", "dream", 3);
            named("worth", "whom", 1);
            for (String name : new String[] {"dream", "whom"}) {
                faulty("burn " + name + ";", 5, 5);
                faulty("sound " + name + ";", 5, 6);
                faulty("price " + name + ";", 5, 6);
            }
        });
        test("II", "task (the WORK), noise in burn;", () -> {
            named("burn", "task", 1);
            named("burn", "noise", 6);
            for (String name : new String[] {"task", "noise"}) {
                faulty("worth " + name + ";", 5, 6);
                faulty("sound " + name + ";", 5, 6);
                faulty("price " + name + ";", 5, 6);
            }
        });
        test("II", "owed (what it is owed by the one it would sleep for) in price.", () -> {
            named("price", "owed", 1);
            SleptFor x = named("price owed+5;");
            x.may(2, 0);
            due(x.match(1, 1, 4, true, -1), 5); // by 0 it is owed nothing
            faulty("worth owed;", 5, 6);
            faulty("burn owed;", 5, 5);
            faulty("sound owed;", 5, 6);
        });
    }

    private static void steps() {
        test("II", "From the left;", () -> {
            value("20-5-3", 12);
            value("100/7/2", 7);
            value("7/2*3", 9);
            value("3*7/2", 10);
            value("2-9+12", 5);
        });
        test("II", "/ cuts towards 0, by 0 it is 0;", () -> {
            value("7/2", 3);
            value("-7/2+10", 7);
            value("7/-2+10", 7);
            value("-7/-2", 3);
            value("1/2+5", 5);
            value("-1/2+5", 5);
            value("9/0+4", 4);
            value("-9/0+4", 4);
            value("0/0+4", 4);
            value("9999*9999/(3-3)+4", 4);
        });
        test("II", "what is above 1000000 (below the same less) is that, at each step.", () -> {
            value("1000*1000-9999*100-50", 50);
            value("1000*1000+1-9999*100-50", 50);
            value("1000*1000-1-9999*100-50", 49);
            value("0-1000*1000+9999*100+150", 50);
            value("0-1000*1000-1+9999*100+150", 50);
            value("0-1000*1000+1+9999*100+150", 51);
            value("9999*9999-9999*100-50", 50);
            value("9999*9999*9999/9999-50", 50); // 1000000 / 9999 is 100
            value("-9999*9999*9999/9999+150", 50);
            value("(9999*9999)*(9999*9999)/9999-50", 50); // far above what an int holds
            value("(9999*9999)*(-9999*9999)/9999+150", 50);
            value("9999*9999-(0-9999*9999)-9999*100-50", 50);
            value("9999*9999*9999*9999-9999*9999", 0);
        });
        test("II", "or and and look at both sides always; of if just the SUM that is chosen is asked for.", () -> {
            value("if 1=1 or 1/0=7 then 5 else 6 end", 5);
            value("if 1=2 and 1/0=0 then 5 else 6 end", 6);
            value("if 1=1 then 5 else 1/0 end", 5);
            value("if 1=2 then 1/0 else if 1=2 then 2 else 3+4 end*2 end+1", 15);
            value("if 1=1 then if 1=2 then 8 else 9 end else 7 end", 9);
        });
    }

    private static void faults() {
        test("II", "FAULTS, the first as TOKENS are come to,", () -> {
            faulty("price on + @;", 5, 6);
            faulty("hour 61 @", 2, 5);
            faulty("worth 10000 on owed;", 2, 6);
            faulty("worth 1;worth @", 4, 8);
            faulty("worth (((((((((@", 3, 14);
            faulty("hour 1;".repeat(24) + "hour @", 6, 168);
            faulty("@ hour 61;", 1, 0);
            faulty("wake 8 at 9;", 2, 5);
            faulty("repay 0 to 8 by 100;", 2, 11);
        });
        test("II", "at the TOKEN's first byte (of the end at the length), of one the least:", () -> {
            faulty("  nothing", 1, 2);
            faulty("hour  12345 ;", 2, 6);
            faulty("hour 1", 1, 6);
            faulty("hour 1 \n ", 1, 9);
            faulty("hour", 1, 4);
            faulty("worth", 1, 5);
            faulty(" ".repeat(296) + "hour", 1, 300);
        });
        test("II", "of one the least:", () -> {
            faulty("hour 1 10000;", 1, 7); // 1 and 2
            faulty("10000", 1, 0);
            faulty("worth ((((((((1(", 1, 15); // 1 and 3
            faulty("worth ((((((((1 if", 1, 16);
            faulty("worth ((((((((not", 1, 14);
            faulty("worth burn;burn 1;", 1, 6); // 1 and 4
            faulty("worth 1;burn worth;", 1, 13);
            faulty("idle owed;", 1, 5); // 1 and 5
            faulty("worth 1 owed;", 1, 8);
            faulty("hour 1;".repeat(24) + "for", 1, 168); // 1 and 6
            faulty("hour 1;".repeat(24) + "1", 1, 168);
            faulty("hour 1;".repeat(23) + "worth 1;worth", 4, 169); // 4 and 6
        });
        test("II", "1 it can't stand there, or is none.", () -> {
            good(EVERYTHING);
            boolean clause = true; // a CLAUSE may begin here
            for (int at = 0; at < EVERYTHING.length(); at = EVERYTHING.indexOf(' ', at) + 1) {
                int end = EVERYTHING.indexOf(' ', at);
                // none; cut off; what may stand just inside of a law or nowhere there
                faulty(EVERYTHING.substring(0, at) + "@" + (end < 0 ? "" : EVERYTHING.substring(end)), 1, at);
                if (clause) good(EVERYTHING.substring(0, at));
                else faulty(EVERYTHING.substring(0, at), 1, at);
                faulty(EVERYTHING.substring(0, at) + "whose" + (end < 0 ? "" : EVERYTHING.substring(end)), 1, at);
                faulty(EVERYTHING.substring(0, at) + "to by" + (end < 0 ? "" : EVERYTHING.substring(end)), 1,
                        EVERYTHING.startsWith("to", at) ? at + 3 : at);
                clause = end < 0 || EVERYTHING.charAt(at) == ';';
                if (end < 0) break;
            }
            faulty(";", 1, 0);
            faulty("hour 1;;", 1, 7);
            faulty("at 1;", 1, 0);
            faulty("who;", 1, 0);
            faulty("hour - 1;", 1, 5);
            faulty("hour (1);", 1, 5);
            faulty("hour who;", 1, 5);
        });
        test("II", "2 a NUMBER that isn't one of those told (above 9999; PEOPLE 0 .. 7, WORKS 0 .. 5, naps 1 .. 99, HOURS 1 .. 60).", () -> {
            numbers("worth ", ";", 0, 9999);
            numbers("price 1+", ";", 0, 9999);
            numbers("wake ", " at 0;", 0, 7);
            numbers("wake 0 at ", ";", 0, 5);
            numbers("sleep ", " for 0;", 0, 7);
            numbers("sleep 0 for ", ";", 0, 7);
            numbers("idle ", ";", 0, 7);
            numbers("call ", ";", 0, 7);
            numbers("repay ", " to 0 by 1;", 0, 7);
            numbers("repay 0 to ", " by 1;", 0, 7);
            numbers("repay 0 to 1 by ", ";", 1, 99);
            numbers("hour ", ";", 1, 60);
        });
    }

    private static void numbers(String ahead, String behind, int least, int most) {
        good(ahead + least + behind);
        good(ahead + most + behind);
        good(ahead + "000" + most + behind);
        faulty(ahead + (most + 1) + behind, 2, ahead.length());
        faulty(ahead + "10000" + behind, 2, ahead.length());
        faulty(ahead + "4294967297" + behind, 2, ahead.length());
        if (least > 0) faulty(ahead + (least - 1) + behind, 2, ahead.length());
    }

    private static void laterFaults() {
        test("II", "3 the 9th of (, not, if and - (of one ONE) that are open around one another (at it).", () -> {
            good("worth ((((((((1))))))));");
            faulty("worth (((((((((1)))))))));", 3, 14);
            good("worth --------1;");
            faulty("worth ---------1;", 3, 14);
            good("worth if not not not not not not not 1<2 then 1 else 2 end;");
            faulty("worth if not not not not not not not not 1<2 then 1 else 2 end;", 3, 37);
            String ifs = "if 1<2 then ".repeat(8);
            good("worth " + ifs + "1" + " else 2 end".repeat(8) + ";");
            faulty("worth " + ifs + "if 1<2 then 1 else 2 end" + " else 2 end".repeat(8) + ";", 3, 102);
            good("worth if " + "if ".repeat(7) + "1<2" + " then 1 else 2 end<2".repeat(7) + " then 1 else 2 end;");
            faulty("worth if " + "if ".repeat(8) + "1<2", 3, 30);
        });
        test("II", "(of one ONE) that are open around one another (at it).", () -> {
            // what is closed again isn't open, and the - between PRODUCTS is none of them
            good("worth ((((((((1))))))))-((((((((1))))))))*--------1;");
            good("worth -1-1-1-1-1-1-1-1-1-1;");
            faulty("worth (((((((-(1))))))));", 3, 14);
            faulty("worth if not not not not not not not (1)<2 then 1 else 2 end;", 3, 37);
            faulty("worth if not not not not not not not 1<(2) then 1 else 2 end;", 3, 39);
            good("worth if not not not not not not not 1<2 or 1<(2) then (1) else (2) end;");
            good("worth if not not not not not not not 1<2 and not 1<2 then -1 else 2 end;");
            faulty("worth (((((((if 1<(2) then 1 else 2 end)))))));", 3, 18);
            faulty("worth (((((((if 1<2 then -1 else 2 end)))))));", 3, 25);
            faulty("worth (((((((if 1<2 then 1 else (2) end)))))));", 3, 32);
            good("worth (((((((if 1<2 then 1 else 2 end*(1))))))));");
            faulty("worth ((((((((if 1<2 then 1 else 2 end))))))));", 3, 14);
            faulty("worth -------(-(1));", 3, 14);
        });
        test("II", "4 worth, burn, sound, price for the second time (at it).", () -> {
            for (String law : LAWS) {
                faulty(law + " 1;hour 1;" + law, 4, law.length() + 10);
                for (String other : LAWS) if (!other.equals(law)) good(law + " 1;" + other + " 1;");
            }
            good("hour 1;hour 1;idle 1;idle 1;call 1;call 1;");
        });
        test("II", "5 a NAME that isn't of that CLAUSE (at it).", () -> {
            String[] names = {"who", "now", "on", "depth", "dream", "whom", "task", "noise", "owed"};
            String[] of = {"who now on depth dream whom", "who now on task noise", "who now on depth", "who now depth owed"};
            for (int law = 0; law < 4; law++) {
                for (String name : names) {
                    boolean may = (" " + of[law] + " ").contains(" " + name + " ");
                    faulty(LAWS[law] + " " + name + ";", may ? 0 : 5, may ? -1 : LAWS[law].length() + 1);
                    faulty(LAWS[law] + " 1+if 1<" + name + " then 1 else 2 end;", may ? 0 : 5, may ? -1 : LAWS[law].length() + 8);
                }
            }
            faulty("worth dream;price dream;", 5, 18); // of the CLAUSE that it stands in
        });
        test("II", "6 the 25th CLAUSE (at its first TOKEN).", () -> {
            String[] firsts = {"hour", "wake", "sleep", "idle", "call", "repay", "worth", "burn", "sound", "price"};
            for (String first : firsts) faulty("hour 1;".repeat(24) + " " + first, 6, 169);
            good("hour 1;".repeat(24) + " \n");
            faulty("hour 1;".repeat(23) + "hour 61;hour 1;", 2, 166);
        });
    }

    private static void rules() {
        test("II", "THE TEXT (told; at first none) rules.", () -> {
            SleptFor x = plain(1, 0);
            due(x.about(5), -1);
            due(text(x, "sound 7;"), 0);
            due(text(x, "sound 8;"), 1);
            due(x.of(0, 8), 3); // a TEXT alone doesn't rule
            x.by(1);
            due(x.of(0, 8), 8);
            x.by(0);
            due(x.of(0, 8), 7);
            x.by(-1);
            due(x.of(0, 8), 3);
        });
        test("II", "worth, burn: 0 at least, 99 at most; without: 10.", () -> {
            int[][] clamped = {{-1, 0}, {0, 0}, {1, 1}, {98, 98}, {99, 99}, {100, 99}, {1000000, 99}, {-1000000, 0}};
            for (int[] c : clamped) {
                SleptFor x = rule(free(2, 1), "worth " + sum(c[0]) + ";burn " + sum(c[0]) + ";");
                x.wake(0, 0);
                x.sleep(1, 0);
                due(x.of(1, 10), c[1]);
                due(x.of(0, 9), c[1]);
            }
            SleptFor x = free(2, 1);
            x.wake(0, 0);
            x.sleep(1, 0);
            due(x.of(1, 10), 10);
            due(x.of(0, 9), 10);
            rule(x, "burn 7;");
            due(x.of(1, 10), 10);
            rule(x, "worth 7;");
            due(x.of(0, 9), 10);
        });
        test("II", "sound: 0 at least, 99 at most; without: DEPTH.", () -> {
            int[][] clamped = {{-1, 0}, {0, 0}, {1, 1}, {98, 98}, {99, 99}, {100, 99}, {1000000, 99}, {-1000000, 0}};
            for (int[] c : clamped) due(rule(plain(1, 0), "sound " + sum(c[0]) + ";").of(0, 8), c[1]);
            SleptFor x = folk(0, 50, 90);
            for (int round = 0; round < 2; round++) {
                due(x.of(0, 8), 0);
                due(x.of(1, 8), 5);
                due(x.of(2, 8), 9);
                rule(x, "worth 1;");
            }
        });
        test("II", "price: 0 at least, 999 at most; without: 1.", () -> {
            int[][] clamped = {{-1, 0}, {0, 0}, {1, 1}, {998, 998}, {999, 999}, {1000, 999}, {1000000, 999}, {-1000000, 0}};
            for (int[] c : clamped) due(rule(free(2, 1), "price " + sum(c[0]) + ";").match(1, 0, 2, true, -1), c[1]);
            due(free(2, 1).match(1, 0, 2, true, -1), 1);
            due(rule(free(2, 1), "sound 7;").match(1, 0, 2, true, -1), 1);
        });
    }

    private static String sum(int value) {
        return (value < 0 ? "0-" : "") + (Math.abs(value) > 9999 ? "1000*1000" : "" + Math.abs(value));
    }

    private static void played() {
        test("II", "PLAYED by a TEXT: its CLAUSES but laws, in their order, as by hand;", () -> {
            SleptFor x = free(3, 1);
            due(text(x, "wake 0 at 0;worth 50;sleep 1 for 0;hour 3;repay 0 to 1 by 2;idle 0;sound 9;call 1;"), 0);
            due(x.played(0), -1);
            due(x.about(6), 8); // each is a STEP, as by hand
            due(x.owes(0, 1), 1);
            due(x.about(7) + x.about(8), 0);
            due(x.about(5), -1); // its laws don't rule by that
            due(x.of(0, 8), 3);
            due(x.undo(), 7);
            due(x.about(8), 2);
            due(text(x, "worth 1;burn 2;"), 1);
            due(x.played(1), -1); // laws alone: nothing is done
            due(x.about(6), 7);
            due(text(x, ""), 2);
            due(x.played(2), -1);
        });
        test("II", "one that can't be ends it (of so many HOURS those that can are done): its number among all CLAUSES (from 0); what was done stays.", () -> {
            String[] not = {"wake 0 at 0;", "wake 3 at 0;", "wake 1 at 2;", "sleep 1 for 1;", "sleep 2 for 1;", "sleep 0 for 1;", "sleep 1 for 3;", "idle 1;",
                "idle 7;", "call 0;", "call 1;", "call 6;", "repay 0 to 1 by 1;", "repay 0 to 0 by 1;", "repay 0 to 7 by 1;", "repay 7 to 0 by 1;"};
            for (String clause : not) {
                SleptFor x = plain(3, 1);
                x.may(1, 0);
                due(text(x, "price 1;wake 0 at 0;" + clause + "hour 1;"), 0);
                due(x.played(0), 2);
                due(x.about(6), 1);
                due(x.about(7), 1);
                due(x.about(2), 0);
            }
            SleptFor x = plain(1, 1);
            due(text(x, "idle 0;"), 0);
            due(x.played(0), 0);
        });
        test("II", "(of so many HOURS those that can are done)", () -> {
            SleptFor x = plain(1, 0);
            for (int i = 0; i < 16; i++) x.hour(60);
            due(text(x, "hour 30;hour 10;idle 0;"), 0);
            due(x.played(0), 1);
            due(x.about(2), 999);
            x.undo();
            due(x.about(2), 998);
            due(x.played(0), 0);
            due(x.about(2), 999);
            due(x.played(0), 0);
            x.undo();
            due(text(x, "hour 1;"), 1);
            due(x.played(1), -1); // just as many as can be
            due(x.about(2), 999);
        });
    }
}
