import java.lang.reflect.Constructor;
import java.lang.reflect.Method;
import java.lang.reflect.Modifier;
import java.util.Arrays;
import java.util.Random;
import java.util.TreeSet;

/** The face, how far the promises reach (512 calls), and that no call throws, whatever it is given. */
public final class ReachTest {
    public static void main(String[] args) {
        Tests.begin();
        face();
        eachAsTheLastCall();
        manyDearCalls();
        neverThrows();
        Tests.end();
    }

    private static void face() {
        Tests.test("the face: a public final class", () -> {
            Tests.due("public", Modifier.isPublic(TagPress.class.getModifiers()), true);
            Tests.due("final", Modifier.isFinal(TagPress.class.getModifiers()), true);
        });
        Tests.test("the face: its methods and no others", () -> {
            TreeSet<String> seen = new TreeSet<>();
            for (Method method : TagPress.class.getDeclaredMethods()) {
                if (!Modifier.isPrivate(method.getModifiers()) && !method.isSynthetic()) {
                    seen.add(method.getReturnType() + " " + method.getName() + Arrays.toString(method.getParameterTypes()));
                }
            }
            Tests.due("methods", seen.toString(), new TreeSet<>(Arrays.asList(
                "boolean write[long, int]", "boolean again[int, int]", "void clear[]", "void turn[]", "int pack[int]",
                "int unpack[int]", "int chunks[int, int, int]", "int unchunk[int]", "int place[]", "int sum[]",
                "int size[]", "int byteAt[int]")).toString());
        });
        Tests.test("the face: one constructor, without parameters", () -> {
            Constructor<?>[] made = TagPress.class.getDeclaredConstructors();
            Tests.due("constructors", made.length, 1);
            Tests.due("parameters", made[0].getParameterCount(), 0);
            Tests.due("public", Modifier.isPublic(made[0].getModifiers()), true);
        });
    }

    /** One that has been settled and has made so many calls that one is left before the last look. */
    private static Press nearTheEnd(int left) {
        Press x = Press.settled();
        while (x.calls() < Press.MOST_CALLS - left) {
            x.byteAt(0);
        }
        return x;
    }

    private static void eachAsTheLastCall() {
        Tests.test("the 512th call: write", () -> Tests.due("write", nearTheEnd(1).write(0L, 1), true));
        Tests.test("the 512th call: again", () -> Tests.due("again", nearTheEnd(1).again(7, 1), true));
        Tests.test("the 512th call: pack", () -> Tests.due("pack", nearTheEnd(1).pack(3), 9));
        Tests.test("the 512th call: unpack", () -> Tests.due("unpack", nearTheEnd(1).unpack(9), -1));
        Tests.test("the 512th call: chunks", () -> Tests.due("chunks", nearTheEnd(1).chunks(9, 0, 0), 25));
        Tests.test("the 512th call: unchunk", () -> Tests.due("unchunk", nearTheEnd(1).unchunk(9), -8));
        Tests.test("the 512th call: place", () -> Tests.due("place", nearTheEnd(1).place(), 5));
        Tests.test("the 512th call: sum", () -> Tests.due("sum", nearTheEnd(1).sum(), Bytes.sumOf("3 8 1 2 3 3 9")));
        Tests.test("the 512th call: size", () -> Tests.due("size", nearTheEnd(1).size(), 3));
        Tests.test("the 512th call: byteAt", () -> Tests.due("byteAt", nearTheEnd(1).byteAt(2), 3));
        Tests.test("the 511th call: clear", () -> {
            Press x = nearTheEnd(2);
            x.clear();
            x.dueIn("");
        });
        Tests.test("the 511th call: turn", () -> {
            Press x = nearTheEnd(2);
            x.turn();
            x.dueIn("1 2 3");
        });
        Tests.test("512 writes of eight bytes", () -> {
            Press x = new Press();
            for (int k = 0; k < 511; k++) {
                Tests.due("write", x.write(0x0101010101010101L, 8), true);
            }
            x.dueIn("4088x1");
        });
    }

    private static void manyDearCalls() {
        Tests.test("512 calls over full rows", () -> {
            Press x = Press.filled(10000, 9);
            for (int k = 0; x.calls() + 7 <= Press.MOST_CALLS; k++) {
                Tests.due("pack", x.pack(k % 4), 475);
                Tests.due("chunks", x.chunks(10000, k % 4, 0), 493);
                x.turn();
                Tests.due("unchunk", x.unchunk(10000), 10000);
                x.turn();
                Tests.due("sum", x.sum(), Bytes.sumOf("10000x9"));
            }
        });
        Tests.test("512 calls that are refused or tell a fault", () -> {
            Press x = Press.settled();
            while (x.calls() + 25 <= Press.MOST_CALLS) {
                Tests.due("write", x.write(0L, 0), false);
                Tests.due("again", x.again(8, 1), false);
                Tests.due("pack", x.pack(4), -1);
                Tests.due("unpack", x.unpack(10001), -20);
                Tests.due("chunks", x.chunks(0, 0, 0), -1);
                Tests.due("unchunk", x.unchunk(-1), -20);
                Tests.due("unpack", x.unpack(9), -1);
                x.duePlace(7);
                Tests.due("unchunk", x.unchunk(9), -8);
                x.duePlace(0);
            }
            x.dueIn("3 8 1 2 3 3 9");
            x.dueOut("1 2 3");
        });
    }

    private static void neverThrows() {
        int[] edges = {Integer.MIN_VALUE, Integer.MIN_VALUE + 1, -10000, -1, 0, 1, 2, 3, 4, 7, 8, 9, 255, 256, 9999, 10000, 10001,
            65536, Integer.MAX_VALUE - 1, Integer.MAX_VALUE};
        for (int seed = 0; seed < 60; seed++) {
            Random random = new Random(seed);
            Tests.test("no call throws, run " + seed, () -> {
                Press x = new Press();
                while (x.calls() < Press.MOST_CALLS) {
                    anyCall(x, random, edges);
                }
            });
        }
    }

    private static void anyCall(Press x, Random random, int[] edges) {
        int a = edges[random.nextInt(edges.length)];
        int b = random.nextInt(4) > 0 ? random.nextInt(9) : edges[random.nextInt(edges.length)];
        switch (random.nextInt(9)) {
            case 0:
            case 1:
                x.write(random.nextLong(), b);
                break;
            case 2:
                x.again(random.nextBoolean() ? a : b, random.nextBoolean() ? a : b);
                break;
            case 3:
                x.pack(b);
                break;
            case 4:
                x.unpack(a);
                break;
            case 5:
                x.chunks(random.nextBoolean() ? a : b, random.nextInt(5), random.nextBoolean() ? a : b);
                break;
            case 6:
                x.unchunk(a);
                break;
            case 7:
                x.byteAt(a);
                break;
            default:
                if (random.nextInt(8) == 0) {
                    x.clear();
                } else {
                    x.turn();
                }
                break;
        }
    }
}
