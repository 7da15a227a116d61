/** The sentences of promises 6 (trim), 7 (cloneVol) and 8 (dropVol). */
public final class MapsTest extends Sentences {
    public static void main(String[] args) {
        CHECK.sentence("6: 'The block is unmapped by a change: 0'", MapsTest::trimUnmaps);
        CHECK.sentence("6: 'by a change'", MapsTest::trimIsAChange);
        CHECK.sentence("6: 'BADARG when there is no such block'", MapsTest::trimOfNoBlock);
        CHECK.sentence("6: 'NOTMAPPED'", MapsTest::trimOfUnmapped);
        CHECK.sentence("7: 'All blocks of volume dst are mapped as those of volume src'", MapsTest::cloneMapsAll);
        CHECK.sentence("7: 'mapped as those', unmapped ones too", MapsTest::cloneUnmapsToo);
        CHECK.sentence("7: 'by a change: 0'", MapsTest::cloneIsAChange);
        CHECK.sentence("7: 'BADARG when there is no such volume', src", MapsTest::cloneOfNoSource);
        CHECK.sentence("7: 'BADARG when there is no such volume', dst", MapsTest::cloneToNoVolume);
        CHECK.sentence("7: '(When both are the same, the change is made all the same.)'", MapsTest::cloneOfTheSame);
        CHECK.sentence("8: 'All blocks of a volume are unmapped'", MapsTest::dropUnmapsAll);
        CHECK.sentence("8: 'by a change: 0', an empty volume too", MapsTest::dropIsAChange);
        CHECK.sentence("8: 'BADARG when there is no such volume'", MapsTest::dropOfNoVolume);
        CHECK.end();
    }

    private static void trimUnmaps() {
        int[][] places = {{0, 0}, {0, 5}, {1, 0}, {3, 0}, {3, 5}};
        for (int[] trimmed : places) {
            Bench b = bench(2, 3, 4, 6);
            for (int[] place : places) {
                b.put(place[0], place[1], 5, 6);
            }
            b.due(0).trim(trimmed[0], trimmed[1]);
            for (int[] place : places) {
                boolean gone = place == trimmed;
                b.due(gone ? NOTMAPPED : 0).slotOf(place[0], place[1]);
                b.due(gone ? 0 : 6).readWord(place[0], place[1], 1);
                b.due(gone ? 0 : 4).refsOf(place[0], place[1]);
            }
            b.due(1).chunksUsed();
        }
    }

    private static void trimIsAChange() {
        for (int blocks : new int[] {1, 6}) {
            for (int n = 1; n <= 7; n++) {
                Bench b = bench(1, 3, 2, blocks);
                b.put(1, blocks - 1, 5);
                b.put(0, 0, 5);
                b.crashAfter(n);
                b.due(n <= 6 ? DOWN : 0).trim(1, blocks - 1);
                b.due(13 + Math.min(n - 1, 6)).writes();
                b.due(0).recover();
                b.due(13 + n - 1 + (n == 5 || n == 6 ? 2 : 0)).writes();
                b.due(n <= 4 ? 0 : NOTMAPPED).slotOf(1, blocks - 1);
                b.due(n <= 4 ? 2 : 1).refsOf(0, 0);
            }
        }
        Bench b = bench(1, 1, 1, 1);
        b.put(0, 0, 5);
        b.due(0).trim(0, 0);
        b.due(0).chunksUsed();
        b.due(5).slotWord(0, 0);
    }

    private static void trimOfNoBlock() {
        for (int[] pair : noBlocks(2, 3)) {
            Bench b = bench(1, 3, 2, 3);
            b.due(BADARG).trim(pair[0], pair[1]);
            b.put(0, 0, 5);
            b.put(0, 1, 5);
            b.put(0, 2, 5);
            b.due(0).cloneVol(0, 1);
            int before = b.writesNow();
            b.due(BADARG).trim(pair[0], pair[1]);
            b.due(before).writes();
            b.due(6).refsOf(0, 0);
        }
    }

    private static void trimOfUnmapped() {
        Bench b = bench(1, 3, 2, 2);
        for (int vol = 0; vol < 2; vol++) {
            for (int lb = 0; lb < 2; lb++) {
                b.due(NOTMAPPED).trim(vol, lb);
            }
        }
        b.put(0, 1, 0);
        b.crashAfter(7);
        b.due(NOTMAPPED).trim(0, 0);
        b.due(NOTMAPPED).trim(1, 0);
        b.due(7).writes();
        b.due(0).trim(0, 1);
        b.due(NOTMAPPED).trim(0, 1);
        b.due(13).writes();
        b.dueDown(false);
        b.due(DOWN).dropVol(1);
        b.due(13).writes();
    }

    private static void cloneMapsAll() {
        for (int blocks = 1; blocks <= 6; blocks++) {
            Bench b = bench(2, 12, 4, blocks);
            for (int lb = 0; lb < blocks; lb++) {
                b.put(3, lb, 10 + lb, 1);
                b.put(0, lb, 20 + lb, 2);
            }
            b.due(2 * blocks).chunksUsed();
            b.due(0).cloneVol(3, 0);
            for (int lb = 0; lb < blocks; lb++) {
                b.dueContents(0, lb, 10 + lb, 1);
                b.dueContents(3, lb, 10 + lb, 1);
                b.due(2).refsOf(0, lb);
                b.due(NOTMAPPED).slotOf(1, lb);
                b.due(NOTMAPPED).slotOf(2, lb);
            }
            b.due(blocks).chunksUsed();
            b.dueSlotWords(1, 20, 2);
        }
    }

    private static void cloneUnmapsToo() {
        Bench b = bench(1, 6, 2, 3);
        b.put(0, 1, 5);
        b.put(1, 0, 6);
        b.put(1, 1, 7);
        b.put(1, 2, 8);
        b.due(0).cloneVol(0, 1);
        b.dueSlots(0, NOTMAPPED, 0, NOTMAPPED);
        b.dueSlots(1, NOTMAPPED, 0, NOTMAPPED);
        b.due(1).chunksUsed();
        b.put(1, 1, 9);
        b.dueContents(0, 1, 5);
        b.dueContents(1, 1, 9);
        b.due(0).dropVol(0);
        b.due(0).cloneVol(0, 1);
        b.dueSlots(1, NOTMAPPED, NOTMAPPED, NOTMAPPED);
        b.due(0).chunksUsed();
    }

    private static void cloneIsAChange() {
        for (int blocks = 1; blocks <= 6; blocks++) {
            int all = 5 + blocks;
            for (int n = 1; n <= all + 1; n++) {
                Bench b = bench(1, 12, 2, blocks);
                for (int lb = 0; lb < blocks; lb++) {
                    b.put(0, lb, 10 + lb);
                    b.put(1, lb, 20 + lb);
                }
                int before = b.writesNow();
                b.crashAfter(n);
                b.due(n <= all ? DOWN : 0).cloneVol(0, 1);
                b.due(before + n - 1).writes();
                b.due(0).recover();
                b.due(before + n - 1 + (n > 4 && n <= all ? blocks + 1 : 0)).writes();
                for (int lb = 0; lb < blocks; lb++) {
                    b.due((n > 4 ? 10 : 20) + lb).readWord(1, lb, 0);
                    b.due(10 + lb).readWord(0, lb, 0);
                }
            }
        }
    }

    private static void dueRefusedClones(int[][] pairs) {
        for (int[] pair : pairs) {
            Bench b = bench(1, 3, 2, 2);
            b.put(0, 0, 5);
            b.put(1, 1, 6);
            b.due(BADARG).cloneVol(pair[0], pair[1]);
            b.due(14).writes();
            b.dueSlots(0, 0, NOTMAPPED);
            b.dueSlots(1, NOTMAPPED, 1);
        }
    }

    private static void cloneOfNoSource() {
        for (int src : outside(2)) {
            dueRefusedClones(new int[][] {{src, 0}, {src, 1}});
        }
    }

    private static void cloneToNoVolume() {
        for (int dst : outside(2)) {
            dueRefusedClones(new int[][] {{0, dst}, {1, dst}, {dst, dst}});
        }
    }

    private static void cloneOfTheSame() {
        for (int volumes : new int[] {1, 4}) {
            int vol = volumes - 1;
            for (int n = 1; n <= 9; n++) {
                Bench b = bench(1, 3, volumes, 3);
                b.put(vol, 0, 5);
                b.put(vol, 2, 6);
                b.crashAfter(n);
                b.due(n <= 8 ? DOWN : 0).cloneVol(vol, vol);
                b.due(14 + n - 1).writes();
                b.due(0).recover();
                b.due(14 + n - 1 + (n > 4 && n <= 8 ? 4 : 0)).writes();
                b.dueSlots(vol, 0, NOTMAPPED, 1);
                b.due(2).chunksUsed();
            }
            Bench empty = bench(1, 3, volumes, 3);
            empty.due(0).cloneVol(vol, vol);
            empty.due(8).writes();
        }
    }

    private static void dropUnmapsAll() {
        for (int volumes = 1; volumes <= 4; volumes++) {
            for (int dropped = 0; dropped < volumes; dropped++) {
                Bench b = bench(1, 12, volumes, 6);
                for (int vol = 0; vol < volumes; vol++) {
                    for (int lb = 0; lb < 6; lb++) {
                        b.put(vol, lb, lb % 2 == 0 ? 5 : 10 + vol);
                    }
                }
                b.due(volumes + 1).chunksUsed();
                b.due(0).dropVol(dropped);
                b.due(volumes == 1 ? 0 : volumes).chunksUsed();
                for (int vol = 0; vol < volumes; vol++) {
                    for (int lb = 0; lb < 6; lb++) {
                        int left = lb % 2 == 0 ? 3 * (volumes - 1) : 3;
                        b.due(vol == dropped ? 0 : left).refsOf(vol, lb);
                    }
                }
                b.due(5).slotWord(0, 0);
            }
        }
    }

    private static void dropIsAChange() {
        for (int blocks = 1; blocks <= 6; blocks++) {
            int all = 5 + blocks;
            for (int n = 1; n <= all + 1; n++) {
                Bench b = bench(1, 12, 2, blocks);
                for (int lb = 0; lb < blocks; lb++) {
                    b.put(1, lb, 10 + lb);
                }
                int before = b.writesNow();
                b.crashAfter(n);
                b.due(n <= all ? DOWN : 0).dropVol(1);
                b.due(before + n - 1).writes();
                b.due(0).recover();
                b.due(before + n - 1 + (n > 4 && n <= all ? blocks + 1 : 0)).writes();
                for (int lb = 0; lb < blocks; lb++) {
                    b.due(n > 4 ? NOTMAPPED : lb).slotOf(1, lb);
                }
            }
            Bench empty = bench(1, 1, 1, blocks);
            empty.due(0).dropVol(0);
            empty.due(all).writes();
            empty.due(0).dropVol(0);
            empty.due(2 * all).writes();
        }
    }

    private static void dropOfNoVolume() {
        for (int volumes : new int[] {1, 2, 4}) {
            for (int vol : outside(volumes)) {
                Bench b = bench(1, 3, volumes, 2);
                b.put(0, 0, 5);
                b.put(volumes - 1, 1, 6);
                b.due(BADARG).dropVol(vol);
                b.due(14).writes();
                b.due(0).slotOf(0, 0);
                b.due(1).slotOf(volumes - 1, 1);
            }
        }
    }
}
