import java.lang.reflect.InvocationTargetException;
import java.lang.reflect.Method;
import java.util.ArrayList;
import java.util.HashMap;
import java.util.List;
import java.util.Map;
import java.util.function.Function;

/**
 * Each promise of the document with ordinary calls, its edges, and wrong calls. A run starts on a
 * new object; each of its lines is a call and the answer that is due. Behind every exception, and
 * behind every call that only asks, all that can be asked must be as it was. Whoever looks makes
 * the calls again on new objects, so that no object is asked more than 512 calls.
 */
public final class PromisesTest {
    private static final int MOST_CALLS = 512;

    private static final String ACTS = " appendText truncateText runTrace addClient setWeight set shape read write"
            + " flush forget show undo restore ";

    private static int wrong = 0;
    private static int checked = 0;
    private static GhostLayers x;
    private static List<Function<GhostLayers, Object>> made;
    private static Map<String, List<Integer>> marks;

    // ---- 1 to 6: a new object, traces

    private static final String P01 = """
            count(0) = 4
            count(1) = 8
            count(2) = 6
            count(3) = 10
            count(4) = 0
            count(5) = 0
            count(6) = 0
            count(12) = 0
            count(13) = 0
            count(23) = 0
            list(0) =
            list(1) =
            list(2) =
            list(3) =
            list(4) =
            block(0, 6) = 0
            block(1, 6) = 5
            block(199, 6) = 995
            block(7, 0) = -1
            block(7, 1) = -1
            block(7, 2) = -1
            block(7, 3) = -1
            block(7, 4) = -1
            block(7, 5) = -1
            client(0, 0) = throws.IndexOutOfBoundsException
            truncateText(1) = throws.IllegalArgumentException
            truncateText(0) = 0
            errorCode() = 0
            errorPosition() = -1
            output(0) = -1
            undo() = -1
            restore(0) = throws.IllegalStateException
            restore(1) = throws.IllegalStateException
            runTrace() = 0
            """;

    private static final String P02 = """
            appendText(0x666c7573) = 4
            appendText(0x6820313b) = 8
            runTrace() = 0
            errorCode() = 0
            count(23) = 1
            appendText(-1) = 4
            runTrace() = -1
            errorPosition() = 0
            appendText(0x202020ff) = 4
            runTrace() = -1
            errorPosition() = 3
            fill(149) = 596
            appendText(0x20202020) = 600
            appendText(0x20202020) = throws.IllegalStateException
            truncateText(597) = 597
            appendText(0x20202020) = throws.IllegalStateException
            truncateText(596) = 596
            appendText(0x20202020) = 600
            runTrace() = 0
            appendText(0) = 4
            """;

    private static final String P03 = """
            text("flush 1;read") = 12
            truncateText(13) = throws.IllegalArgumentException
            truncateText(-1) = throws.IllegalArgumentException
            truncateText(-2147483648) = throws.IllegalArgumentException
            truncateText(2147483647) = throws.IllegalArgumentException
            truncateText(12) = 12
            truncateText(8) = 8
            truncateText(9) = throws.IllegalArgumentException
            runTrace() = 0
            errorCode() = 0
            text("flushing") = 8
            truncateText(5) = 5
            appendText(0x2020313b) = 9
            runTrace() = 0
            text("read") = 4
            truncateText(0) = 0
            runTrace() = 0
            text("flush 12") = 8
            truncateText(7) = 7
            runTrace() = -1
            errorPosition() = 7
            text("flushx") = 6
            truncateText(5) = 5
            runTrace() = -1
            errorPosition() = 5
            text("read; ;") = 7
            truncateText(4) = 4
            runTrace() = -1
            errorPosition() = 4
            """;

    private static final String P04 = """
            addClient(1) = 0
            trace("read 0 5;") = 1
            at(0, 0) = 5
            count(23) = 2
            truncateText(1) = throws.IllegalArgumentException
            trace("read0 10to13;write 0 20 999;flush 40;") = 5
            list(2) = 13
            list(0) = 20 12 11 10 5
            block(20, 2) = 999
            block(20, 6) = 999
            count(21) = 1
            client(0, 5) = 5
            client(0, 6) = 1
            count(23) = 3
            trace("  |write|0 007 0000000000000000000000003|;| flush  1 ; ") = 1
            block(7, 6) = 3
            trace("") = 0
            trace("  | ") = 0
            count(23) = 6
            trace("read 0 30;flush 1;read 1 31;read 0 32;flush 2;") = 1
            block(32, 0) = -1
            count(23) = 7
            count(5) = 8
            trace("read 0 33;read 0 34") = -1
            block(33, 0) = -1
            count(5) = 8
            count(23) = 7
            truncateText(1) = throws.IllegalArgumentException
            trace("read 3 1;") = 0
            count(23) = 8
            trace("read 0 199 to 199;") = 1
            client(0, 4) = 199
            trace("read 0 0 to 199;") = 200
            client(0, 3) = 200
            undo() = 7
            client(0, 3) = 1
            """;

    private static final String P04_LIMIT = """
            addClient(1) = 0
            set(1, 2) = 8
            trace("write 0 50 1;write 0 40 2;write 0 30 3;write 0 20 4;") = 4
            count(21) = 2
            count(12) = 2
            count(13) = 41
            order(0) = 50
            order(1) = 20
            undo() = 2
            count(21) = 0
            count(5) = 0
            trace("write 0 50 1;write 2 40 2;") = 1
            count(12) = 1
            """;

    /** A trace, its error code and its error position; all on objects with one client. */
    private static final String[][] P05_06 = {
        {"read 0 5;", "0", "-1"},
        {"read 3 199 to 199;", "0", "-1"},
        {"write 3 0 0;write 0 199 999;", "0", "-1"},
        {"flush 1;flush 40;", "0", "-1"},
        {"read0 5to5;write0 5 5;flush1;", "0", "-1"},
        {"", "0", "-1"},
        {" | ", "0", "-1"},
        {"read 0 5", "1", "8"},
        {"read 0 5  ", "1", "10"},
        {"read 0 5|", "1", "9"},
        {"read", "1", "4"},
        {"read 0", "1", "6"},
        {"read 0 5 to", "1", "11"},
        {"read 0 5 to 6", "1", "13"},
        {"write 0 5", "1", "9"},
        {"write 0 5 6", "1", "11"},
        {"flush", "1", "5"},
        {"flush 5", "1", "7"},
        {";", "1", "0"},
        {"read 0 5;;", "1", "9"},
        {"reads 0 5;", "1", "0"},
        {"rea 0 5;", "1", "0"},
        {"readx", "1", "0"},
        {"readz 0 5;", "1", "0"},
        {"areaz", "1", "0"},
        {"tead 0 5;", "1", "0"},
        {"read 0 xyz;", "1", "7"},
        {"write 0 5 a;", "1", "10"},
        {"flush x;", "1", "6"},
        {"  to 0 5;", "1", "2"},
        {"5 read 0 5;", "1", "0"},
        {"read read 0 5;", "1", "5"},
        {"read 0 5 5;", "1", "9"},
        {"read 0 ;", "1", "7"},
        {"read 0 5 to to 6;", "1", "12"},
        {"read 0 to 6;", "1", "7"},
        {"read 0 5 to 6 to 7;", "1", "14"},
        {"read 0 5 tow 6;", "1", "9"},
        {"write 0 5 to 6;", "1", "10"},
        {"write 0 5 6 7;", "1", "12"},
        {"flush 5 to 6;", "1", "8"},
        {"flush ;", "1", "6"},
        {"flush read 0 5;", "1", "6"},
        {"Read 0 5;", "1", "0"},
        {"reaD 0 5;", "1", "0"},
        {"read 0 5@;", "1", "8"},
        {"read 0 5 @to 6;", "1", "9"},
        {"read 0^5;", "1", "6"},
        {"read 0 -5;", "1", "7"},
        {"read 0 5:", "1", "8"},
        {"read 0 5/", "1", "8"},
        {"read 0 5`", "1", "8"},
        {"read 0 5{", "1", "8"},
        {"read 4 5;", "2", "5"},
        {"read 0 200;", "2", "7"},
        {"read 0 00199;", "0", "-1"},
        {"read 0 99999999999999999999999999;", "2", "7"},
        {"read 4294967296 5;", "2", "5"},
        {"read 18446744073709551616 5;", "2", "5"},
        {"read 0 5 to 4;", "2", "12"},
        {"read 0 5 to 200;", "2", "12"},
        {"read 0 200 to 100;", "2", "7"},
        {"write 4 5 6;", "2", "6"},
        {"write 0 200 6;", "2", "8"},
        {"write 0 5 1000;", "2", "10"},
        {"write 0 5 9999;", "2", "10"},
        {"flush 0;", "2", "6"},
        {"flush 41;", "2", "6"},
        {"flush 99999999999;", "2", "6"},
        {"read 0 5; flush 41", "2", "16"},
        {"read 4 @", "2", "5"},
        {"read 9 9 9", "2", "5"},
        {"<40>", "0", "-1"},
        {"<40> |", "0", "-1"},
        {"<40>read 0 5;", "3", "360"},
        {"<40> write", "3", "361"},
        {"<40>flush 0;", "3", "360"},
        {"<40>to", "1", "360"},
        {"<40>reader", "1", "360"},
        {"<40>;", "1", "360"},
        {"<40>5", "1", "360"},
        {"<40>?", "1", "360"},
        {"<39>read 0 5;", "0", "-1"},
    };

    private static final String P05_06_LATEST = """
            errorCode() = 0
            errorPosition() = -1
            trace("flush 41;") = -1
            errorCode() = 2
            errorPosition() = 6
            addClient(1) = 0
            read(0, 1) = 5
            undo() = 1
            text("flush") = 5
            errorCode() = 2
            errorPosition() = 6
            save(0) = void
            runTrace() = -1
            errorCode() = 1
            errorPosition() = 5
            restore(0) = void
            errorCode() = 1
            errorPosition() = 5
            trace("flush 40;") = 0
            errorCode() = 0
            errorPosition() = -1
            """;

    // ---- 7 to 10: clients and settings

    private static final String P07 = """
            addClient(0) = throws.IllegalArgumentException
            addClient(10) = throws.IllegalArgumentException
            addClient(-2147483648) = throws.IllegalArgumentException
            count(6) = 0
            addClient(1) = 0
            addClient(9) = 1
            client(1, 0) = 9
            client(1, 3) = 0
            client(1, 4) = -1
            client(2, 0) = throws.IndexOutOfBoundsException
            read(1, 7) = 35
            addClient(5) = 2
            undo() = 3
            count(6) = 2
            addClient(4) = 2
            client(2, 0) = 4
            client(2, 5) = 0
            addClient(6) = 3
            addClient(6) = throws.IllegalStateException
            addClient(0) = throws.IllegalArgumentException
            count(6) = 4
            count(23) = 5
            """;

    private static final String P07_AGAIN = """
            addClient(3) = 0
            read(0, 7) = 35
            undo() = 1
            undo() = 0
            addClient(2) = 0
            client(0, 0) = 2
            client(0, 3) = 0
            client(0, 4) = -1
            client(0, 5) = 0
            client(0, 9) = 0
            """;

    private static final String P07_RESTORED = """
            save(0) = void
            addClient(3) = 0
            trace("read 0 7 to 9;write 0 9 1;read 0 9;read 0 7;") = 6
            shape(2, 2) = 3
            trace("read 0 7;read 0 17;read 0 27;read 0 7;") = 4
            client(0, 8) = 1
            restore(0) = void
            addClient(2) = 0
            client(0, 0) = 2
            client(0, 3) = 0
            client(0, 4) = -1
            client(0, 5) = 0
            client(0, 6) = 0
            client(0, 7) = 0
            client(0, 8) = 0
            client(0, 9) = 0
            """;

    private static final String P08 = """
            setWeight(0, 1) = throws.IndexOutOfBoundsException
            addClient(4) = 0
            addClient(2) = 1
            setWeight(0, 9) = 4
            setWeight(0, 1) = 9
            setWeight(1, 3) = 2
            client(0, 0) = 1
            client(1, 0) = 3
            count(23) = 5
            setWeight(0, 0) = throws.IllegalArgumentException
            setWeight(0, 10) = throws.IllegalArgumentException
            setWeight(2, 1) = throws.IndexOutOfBoundsException
            setWeight(-1, 0) = throws.IndexOutOfBoundsException
            setWeight(2, 10) = throws.IndexOutOfBoundsException
            setWeight(0, 1) = 1
            count(23) = 6
            """;

    private static final String P09 = """
            set(0, 2) = 4
            set(0, 20) = 2
            set(0, 1) = throws.IllegalArgumentException
            set(0, 21) = throws.IllegalArgumentException
            set(1, 0) = 8
            set(1, 40) = 0
            set(1, -1) = throws.IllegalArgumentException
            set(1, 41) = throws.IllegalArgumentException
            set(2, 4) = throws.IllegalArgumentException
            set(-1, 4) = throws.IllegalArgumentException
            set(0, 0) = throws.IllegalArgumentException
            count(0) = 20
            count(1) = 40
            count(23) = 4
            addClient(1) = 0
            write(0, 10, 1) = 0
            write(0, 30, 3) = 0
            write(0, 20, 2) = 0
            set(1, 1) = 40
            count(12) = 3
            count(21) = 0
            read(0, 40) = 200
            count(12) = 3
            write(0, 50, 5) = 3
            count(12) = 1
            order(0) = 50
            set(1, 0) = 1
            write(0, 60, 6) = 2
            count(12) = 0
            """;

    private static final String P10 = """
            addClient(1) = 0
            write(0, 99, 9) = 0
            flush(1) = 1
            write(0, 150, 1) = 0
            write(0, 20, 2) = 0
            read(0, 30) = 150
            shape(1, 5) = throws.IllegalArgumentException
            shape(17, 5) = throws.IllegalArgumentException
            shape(5, 1) = throws.IllegalArgumentException
            shape(5, 25) = throws.IllegalArgumentException
            shape(2, 3) = 4
            count(2) = 2
            count(3) = 3
            count(13) = 21
            count(21) = 3
            count(20) = 0
            count(12) = 0
            count(5) = 4
            block(150, 6) = 1
            block(20, 6) = 2
            block(20, 0) = -1
            block(20, 2) = -1
            list(0) =
            client(0, 1) = 0
            client(0, 4) = 30
            read(0, 31) = 155
            client(0, 3) = 2
            read(0, 10) = 50
            read(0, 40) = 200
            read(0, 31) = 155
            read(0, 50) = 250
            count(4) = 1
            list(0) = 50 40
            list(1) =
            list(2) = 31 10
            list(3) = 10
            list(4) = 31
            shape(16, 24) = 4
            count(4) = 0
            list(2) =
            list(3) =
            list(4) =
            block(10, 5) = -1
            block(31, 5) = -1
            shape(16, 24) = 0
            wouldBe(0, 10, 2) = 0
            shape(2, 2) = 0
            """;

    // ---- accesses: the three cases, room, targets

    private static final String ACCESSES = """
            addClient(1) = 0
            shape(2, 2) = 0
            read(0, 10) = 50
            read(0, 20) = 100
            list(0) = 20 10
            read(0, 30) = 150
            list(0) = 30 20
            list(2) = 10
            list(3) = 10
            read(0, 40) = 200
            list(3) = 20 10
            list(2) = 20 10
            count(20) = 0
            read(0, 50) = 250
            list(0) = 50 40
            list(2) = 30 20
            list(3) = 30 20
            count(20) = 1
            block(10, 0) = -1
            read(0, 20) = 100
            count(4) = 1
            list(0) = 50
            list(1) = 20
            list(2) = 40 30
            list(3) = 40 30
            read(0, 30) = 150
            count(4) = 2
            list(0) = 50
            list(1) = 30
            list(2) = 20 40
            list(3) = 40
            list(4) = 20
            read(0, 20) = 100
            count(4) = 1
            list(0) =
            list(1) = 20 30
            list(2) = 50 40
            list(3) = 50 40
            list(4) =
            read(0, 30) = 150
            list(1) = 30 20
            count(5) = 9
            count(14) = 1
            count(15) = 3
            count(16) = 5
            count(17) = 2
            count(18) = 1
            count(19) = 6
            count(20) = 1
            count(21) = 0
            count(22) = 0
            client(0, 5) = 9
            client(0, 6) = 0
            client(0, 7) = 1
            client(0, 8) = 3
            client(0, 9) = 5
            """;

    private static final String TARGETS = """
            addClient(1) = 0
            shape(3, 24) = 0
            trace("read 0 10;read 0 10;read 0 30;read 0 30;read 0 50;read 0 50;read 0 70;read 0 70;") = 8
            list(1) = 70 50 30
            list(4) = 10
            read(0, 90) = 450
            read(0, 110) = 550
            list(3) = 90
            list(4) = 30 10
            read(0, 90) = 450
            count(4) = 2
            list(0) = 110
            list(1) = 90 70
            list(4) = 50 30 10
            read(0, 110) = 550
            read(0, 50) = 250
            count(4) = 1
            list(1) = 50 110 90
            list(4) = 70 30 10
            read(0, 130) = 650
            list(4) = 90 70 30
            block(10, 5) = -1
            read(0, 150) = 750
            list(0) = 150 130
            list(1) = 50
            list(4) = 110 90 70
            read(0, 170) = 850
            list(3) = 130
            read(0, 130) = 650
            count(4) = 3
            """;

    private static final String TARGET_DOWN = """
            addClient(1) = 0
            shape(3, 24) = 0
            trace("read 0 10;read 0 10;read 0 30;read 0 50;read 0 70;read 0 90;") = 6
            list(0) = 90 70
            list(1) = 10
            list(3) = 50 30
            read(0, 30) = 150
            read(0, 50) = 250
            count(4) = 2
            list(0) = 90
            list(1) = 50 30
            list(3) = 70
            list(4) = 10
            read(0, 110) = 550
            list(0) = 110 90
            list(4) = 30 10
            read(0, 130) = 650
            read(0, 150) = 750
            list(0) = 150 130 110
            list(1) =
            list(3) = 90 70
            list(4) = 50 30 10
            read(0, 170) = 850
            read(0, 190) = 950
            list(3) = 130 110 90
            forget(30) = true
            forget(10) = true
            list(4) = 50
            count(4) = 2
            read(0, 50) = 250
            count(4) = 0
            list(0) = 190 170
            list(1) = 50
            """;

    private static final String TARGET_RATIO = """
            addClient(1) = 0
            shape(4, 24) = 0
            trace("read 0 10;read 0 10;read 0 30;read 0 30;read 0 50;read 0 50;read 0 70;read 0 70;") = 8
            trace("read 0 90;read 0 90;read 0 110;read 0 130;read 0 150;") = 5
            list(0) = 150
            list(1) = 90 70 50
            list(3) = 130 110
            list(4) = 30 10
            read(0, 110) = 550
            count(4) = 1
            list(1) = 110 90 70
            list(4) = 50 30 10
            read(0, 130) = 650
            count(4) = 4
            trace("read 0 1;read 0 3;read 0 5;read 0 7;read 0 9;") = 5
            list(0) = 9 7 5 3
            list(3) = 1 150
            list(4) = 130 110 90 70
            forget(70) = true
            forget(90) = true
            read(0, 110) = 550
            count(4) = 3
            """;

    private static final String SCANS = """
            addClient(1) = 0
            addClient(1) = 1
            shape(3, 3) = 0
            set(0, 2) = 4
            read(0, 10) = 50
            read(0, 11) = 55
            list(0) = 10
            list(2) = 11
            block(11, 3) = 0
            count(22) = 1
            count(16) = 2
            read(1, 11) = 55
            list(0) = 11 10
            list(2) =
            block(11, 3) = 1
            count(15) = 1
            read(0, 9) = 45
            read(0, 10) = 50
            count(22) = 2
            count(14) = 1
            list(0) = 9 11 10
            read(0, 11) = 55
            list(0) = 9 11 10
            block(11, 3) = 0
            read(0, 12) = 60
            read(0, 13) = 65
            read(0, 14) = 70
            list(2) = 14 13 12
            read(0, 15) = 75
            list(2) = 15 14 13
            count(20) = 1
            list(3) =
            read(0, 13) = 65
            list(0) = 13 9 11
            list(2) = 10 15 14
            list(3) = 10
            read(0, 9) = 45
            read(0, 10) = 50
            list(2) = 10 15 14
            list(3) = 10
            block(10, 0) = 2
            block(10, 5) = 3
            count(17) = 0
            read(1, 14) = 70
            read(1, 15) = 75
            list(2) = 15 11 10
            block(15, 3) = 1
            client(1, 3) = 2
            client(1, 8) = 3
            """;

    private static final String SHARES = """
            addClient(1) = 0
            addClient(1) = 1
            shape(3, 5) = 0
            read(0, 10) = 50
            read(1, 20) = 100
            client(1, 10) = 0
            read(1, 30) = 150
            client(0, 10) = 0
            client(1, 10) = 1
            victim(false) = 20
            read(0, 40) = 200
            list(0) = 40 30 10
            list(2) = 20
            client(0, 10) = 1
            setWeight(0, 9) = 1
            client(0, 10) = 0
            client(1, 10) = 1
            victim(false) = 30
            setWeight(0, 2) = 9
            client(0, 10) = 0
            client(1, 10) = 0
            victim(false) = 10
            read(1, 10) = 50
            client(0, 1) = 1
            client(1, 1) = 2
            list(1) = 10
            victim(false) = 30
            """;

    private static final String SHARES_EXACT = """
            addClient(1) = 0
            addClient(1) = 1
            addClient(1) = 2
            shape(3, 5) = 0
            trace("read 0 10;read 1 20;read 1 30;") = 3
            client(0, 10) = 0
            client(1, 10) = 1
            victim(false) = 20
            read(2, 40) = 200
            list(0) = 40 30 10
            """;

    private static final String SHARES_FREQUENT = """
            addClient(1) = 0
            addClient(1) = 1
            shape(3, 5) = 0
            trace("read 1 10;read 0 20;read 0 20;read 0 30;") = 4
            list(0) = 30 10
            client(0, 10) = 1
            victim(false) = 30
            read(1, 40) = 200
            list(0) = 40 10
            list(2) = 30
            block(30, 3) = 0
            """;

    // ---- 11 to 18: what there is, acts

    private static final String P11 = """
            addClient(1) = 0
            shape(2, 2) = 0
            set(1, 1) = 8
            count(-1) = throws.IllegalArgumentException
            count(24) = throws.IllegalArgumentException
            count(2147483647) = throws.IllegalArgumentException
            write(0, 10, 1) = 0
            write(0, 20, 2) = 1
            write(0, 10, 3) = 1
            read(0, 30) = 150
            read(0, 40) = 200
            read(0, 20) = 2
            read(0, 50) = 250
            list(0) = 50 40
            list(1) =
            list(2) = 20 10
            list(3) = 30
            list(4) = 20 10
            count(0) = 4
            count(1) = 1
            count(2) = 2
            count(3) = 2
            count(4) = 1
            count(5) = 7
            count(6) = 1
            count(7) = 2
            count(8) = 0
            count(9) = 2
            count(10) = 1
            count(11) = 2
            count(12) = 1
            count(13) = 21
            count(14) = 1
            count(15) = 1
            count(16) = 5
            count(17) = 1
            count(18) = 0
            count(19) = 4
            count(20) = 1
            count(21) = 2
            count(22) = 0
            count(23) = 8
            read(0, 10) = 3
            count(18) = 1
            count(4) = 0
            undo() = 7
            count(18) = 0
            count(17) = 1
            count(4) = 1
            """;

    private static final String P12 = """
            client(0, 0) = throws.IndexOutOfBoundsException
            addClient(3) = 0
            addClient(1) = 1
            client(2, 0) = throws.IndexOutOfBoundsException
            client(-1, 11) = throws.IndexOutOfBoundsException
            client(0, 11) = throws.IllegalArgumentException
            client(0, -1) = throws.IllegalArgumentException
            shape(4, 3) = 0
            set(0, 2) = 4
            read(1, 5) = 25
            write(1, 6, 1) = 0
            read(1, 7) = 35
            read(1, 7) = 35
            write(1, 7, 9) = 0
            read(0, 7) = 9
            read(1, 40) = 200
            client(0, 0) = 3
            client(0, 1) = 1
            client(0, 2) = 0
            client(0, 3) = 1
            client(0, 4) = 7
            client(0, 5) = 1
            client(0, 6) = 0
            client(0, 7) = 1
            client(0, 8) = 0
            client(0, 9) = 0
            client(0, 10) = 0
            client(1, 0) = 1
            client(1, 1) = 2
            client(1, 2) = 1
            client(1, 3) = 1
            client(1, 4) = 40
            client(1, 5) = 4
            client(1, 6) = 2
            client(1, 7) = 1
            client(1, 8) = 1
            client(1, 9) = 4
            client(1, 10) = 1
            read(1, 199) = 995
            read(1, 0) = 0
            client(1, 3) = 1
            client(1, 4) = 0
            read(1, 0) = 0
            client(1, 7) = 2
            undo() = 7
            client(1, 7) = 1
            client(1, 5) = 6
            """;

    private static final String P13 = """
            block(-1, 0) = throws.IllegalArgumentException
            block(200, 0) = throws.IllegalArgumentException
            block(0, -1) = throws.IllegalArgumentException
            block(0, 7) = throws.IllegalArgumentException
            addClient(1) = 0
            addClient(1) = 1
            shape(2, 2) = 0
            read(0, 10) = 50
            write(1, 20, 7) = 0
            block(10, 0) = 0
            block(10, 1) = 1
            block(10, 2) = 50
            block(10, 3) = 0
            block(10, 4) = -1
            block(10, 5) = -1
            block(10, 6) = 50
            block(20, 0) = 0
            block(20, 1) = 0
            block(20, 2) = 7
            block(20, 3) = 1
            block(20, 4) = 2
            block(20, 6) = 100
            read(0, 20) = 7
            block(20, 0) = 1
            block(20, 3) = 0
            block(20, 4) = 2
            write(0, 20, 8) = 0
            block(20, 4) = 2
            read(0, 30) = 150
            block(10, 0) = 2
            block(10, 1) = 0
            block(10, 3) = 0
            block(10, 5) = 3
            read(0, 10) = 50
            block(20, 0) = 2
            block(20, 5) = 4
            block(20, 4) = 2
            block(20, 2) = 8
            flush(1) = 1
            block(20, 4) = -1
            block(20, 6) = 8
            block(30, 1) = 0
            block(40, 0) = -1
            block(40, 1) = -1
            block(40, 2) = -1
            block(40, 3) = -1
            block(40, 4) = -1
            block(40, 5) = -1
            block(40, 6) = 200
            forget(20) = true
            block(20, 2) = -1
            block(20, 3) = -1
            block(20, 5) = -1
            block(20, 6) = 8
            """;

    private static final String P14 = """
            at(0, 0) = -1
            at(4, 2147483647) = -1
            at(-1, 0) = throws.IndexOutOfBoundsException
            at(5, 0) = throws.IndexOutOfBoundsException
            at(0, -1) = throws.IndexOutOfBoundsException
            at(4, -2147483648) = throws.IndexOutOfBoundsException
            addClient(1) = 0
            shape(2, 2) = 0
            read(0, 10) = 50
            read(0, 20) = 100
            read(0, 20) = 100
            read(0, 30) = 150
            read(0, 10) = 50
            at(0, 0) = 30
            at(0, 1) = -1
            at(1, 0) = 10
            at(2, 0) = 20
            at(3, 0) = -1
            at(4, 0) = 20
            at(4, 1) = -1
            """;

    private static final String P15 = """
            read(0, 0) = throws.IndexOutOfBoundsException
            addClient(1) = 0
            read(1, 0) = throws.IndexOutOfBoundsException
            read(-1, 200) = throws.IndexOutOfBoundsException
            read(0, 200) = throws.IllegalArgumentException
            read(0, -1) = throws.IllegalArgumentException
            count(5) = 0
            read(0, 199) = 995
            read(0, 0) = 0
            write(0, 50, 77) = 0
            read(0, 50) = 77
            forget(50) = true
            read(0, 50) = 250
            count(23) = 7
            """;

    private static final String P16 = """
            write(0, 0, 0) = throws.IndexOutOfBoundsException
            addClient(1) = 0
            write(1, 200, 0) = throws.IndexOutOfBoundsException
            write(0, 200, 0) = throws.IllegalArgumentException
            write(0, -1, 0) = throws.IllegalArgumentException
            write(0, 0, -1) = throws.IllegalArgumentException
            write(0, 0, 1000) = throws.IllegalArgumentException
            count(5) = 0
            shape(2, 2) = 0
            set(1, 3) = 8
            write(0, 10, 50) = 0
            block(10, 4) = 1
            write(0, 199, 999) = 0
            write(0, 199, 0) = 0
            block(199, 4) = 2
            block(199, 2) = 0
            write(0, 30, 1) = 0
            write(0, 5, 2) = 1
            count(13) = 6
            block(5, 4) = -1
            block(5, 6) = 2
            list(0) = 5
            list(1) = 199
            list(2) = 30 10
            write(0, 40, 4) = 1
            count(13) = 11
            block(40, 3) = 0
            count(20) = 1
            list(2) = 5 30
            count(12) = 3
            """;

    private static final String P16_EDGES = """
            addClient(1) = 0
            set(1, 0) = 8
            write(0, 0, 1) = 1
            block(0, 6) = 1
            count(13) = 1
            write(0, 199, 2) = 1
            count(13) = 0
            set(1, 40) = 0
            write(0, 0, 3) = 0
            block(0, 2) = 3
            block(0, 3) = 0
            block(0, 4) = 3
            write(0, 199, 4) = 0
            rank(0) = 0
            rank(199) = 1
            order(0) = 0
            order(1) = 199
            oldest() = 0
            ages(1) = 1
            stale(0) = 2
            stale(1) = 1
            differing() = 2
            count(12) = 2
            longest(1) = 1
            between(1, 0, 0) = 1
            between(1, 199, 199) = 1
            ownedAt(0, 1, 1) = 0
            wouldBe(0, 0, 0) = 0
            wouldBe(0, 199, 0) = 0
            ahead(0, 0, 1, 1, 0) = 1
            ahead(0, 199, 1, 1, 0) = 1
            toScan(0, 0) = 4
            forget(199) = true
            longest(1) = 1
            forget(0) = true
            longest(1) = 0
            block(0, 3) = -1
            block(0, 4) = -1
            block(199, 2) = -1
            count(12) = 0
            write(0, 0, 3) = 0
            shape(2, 2) = 1
            block(0, 0) = -1
            block(0, 2) = -1
            block(0, 3) = -1
            block(0, 6) = 3
            """;

    private static final String P16_LEAVING = """
            addClient(1) = 0
            shape(2, 2) = 0
            write(0, 10, 1) = 0
            write(0, 60, 2) = 0
            write(0, 30, 3) = 0
            write(0, 40, 4) = 0
            list(2) = 60 10
            leaving() = 10
            write(0, 90, 5) = 1
            block(10, 6) = 1
            count(13) = 11
            count(20) = 1
            count(21) = 1
            list(2) = 30 60
            set(1, 2) = 8
            write(0, 100, 6) = 3
            count(13) = 101
            block(60, 6) = 2
            block(30, 6) = 150
            block(90, 6) = 5
            block(100, 6) = 6
            block(100, 4) = -1
            block(40, 4) = 4
            order(0) = 30
            order(1) = 40
            list(2) = 40 30
            leaving() = 30
            write(0, 110, 7) = 1
            block(30, 0) = -1
            list(2) = 90 40
            """;

    private static final String P17 = """
            flush(0) = throws.IllegalArgumentException
            flush(41) = throws.IllegalArgumentException
            flush(-1) = throws.IllegalArgumentException
            flush(40) = 0
            count(23) = 1
            addClient(1) = 0
            trace("write 0 100 1;write 0 50 2;write 0 150 3;write 0 199 4;write 0 0 5;") = 5
            flush(2) = 2
            count(13) = 51
            block(0, 6) = 5
            block(50, 6) = 2
            block(100, 6) = 500
            flush(2) = 2
            count(13) = 151
            write(0, 3, 6) = 0
            flush(1) = 1
            count(13) = 0
            block(199, 6) = 4
            block(199, 4) = -1
            block(199, 0) = 0
            flush(40) = 1
            count(13) = 4
            count(21) = 6
            flush(1) = 0
            """;

    private static final String P18 = """
            forget(-1) = throws.IllegalArgumentException
            forget(200) = throws.IllegalArgumentException
            forget(0) = false
            count(23) = 1
            addClient(1) = 0
            shape(2, 3) = 0
            read(0, 10) = 50
            write(0, 20, 9) = 0
            read(0, 30) = 150
            forget(10) = true
            block(10, 0) = -1
            block(10, 5) = -1
            forget(10) = false
            forget(20) = true
            block(20, 6) = 100
            count(12) = 0
            count(21) = 0
            list(0) = 30
            list(3) =
            count(20) = 0
            read(0, 40) = 200
            read(0, 40) = 200
            read(0, 50) = 250
            list(1) = 40
            forget(40) = true
            list(1) =
            read(0, 60) = 300
            list(0) = 60 50
            read(0, 70) = 350
            read(0, 80) = 400
            read(0, 90) = 450
            list(2) = 70 60 50
            list(3) = 70 60
            forget(50) = true
            list(2) = 70 60
            read(0, 100) = 500
            read(0, 110) = 550
            list(2) = 90 80 70
            list(3) = 90 80
            forget(70) = true
            forget(80) = true
            read(0, 80) = 400
            list(1) =
            list(0) = 80 110
            count(17) = 0
            """;

    // ---- 19 to 33: what follows

    private static final String P19 = """
            share(0) = throws.IndexOutOfBoundsException
            addClient(1) = 0
            share(0) = 6.0
            addClient(2) = 1
            share(0) = 2.0
            share(1) = 4.0
            share(2) = throws.IndexOutOfBoundsException
            share(-1) = throws.IndexOutOfBoundsException
            shape(16, 2) = 0
            share(0) = 5.333333333333333
            share(1) = 10.666666666666666
            addClient(4) = 2
            share(2) = 9.142857142857142
            setWeight(0, 9) = 1
            share(0) = 9.6
            """;

    private static final String P20 = """
            hitShare() = 0.0
            addClient(1) = 0
            read(0, 10) = 50
            hitShare() = 0.0
            read(0, 10) = 50
            hitShare() = 0.5
            read(0, 10) = 50
            hitShare() = 0.6666667
            set(0, 2) = 4
            read(0, 11) = 55
            read(0, 11) = 55
            write(0, 11, 1) = 0
            hitShare() = 0.5
            undo() = 7
            hitShare() = 0.4
            """;

    private static final String P21 = """
            order(0) = -1
            order(-1) = throws.IndexOutOfBoundsException
            addClient(1) = 0
            shape(2, 5) = 0
            trace("write 0 100 1;write 0 50 2;write 0 150 3;write 0 199 4;write 0 0 5;") = 5
            order(0) = 0
            order(1) = 50
            order(2) = 100
            order(3) = 150
            order(4) = 199
            order(5) = -1
            order(2147483647) = -1
            flush(3) = 3
            order(0) = 150
            write(0, 100, 1) = 0
            write(0, 101, 1) = 0
            order(0) = 101
            order(1) = 150
            order(2) = 199
            order(3) = 100
            order(4) = -1
            """;

    private static final String P22 = """
            victim(false) = -1
            victim(true) = -1
            addClient(1) = 0
            shape(2, 3) = 0
            read(0, 10) = 50
            victim(false) = -1
            read(0, 20) = 100
            victim(false) = 10
            victim(true) = 10
            read(0, 20) = 100
            read(0, 10) = 50
            victim(false) = 20
            victim(true) = 20
            read(0, 30) = 150
            read(0, 40) = 200
            list(0) = 40
            list(1) = 10
            count(4) = 0
            victim(false) = 40
            victim(true) = 40
            read(0, 30) = 150
            count(4) = 1
            list(0) = 40
            list(1) = 30
            victim(false) = 30
            victim(true) = 40
            forget(30) = true
            victim(true) = -1
            """;

    private static final String P23 = """
            leaving() = -1
            addClient(1) = 0
            shape(2, 3) = 0
            set(1, 40) = 8
            trace("write 0 10 1;read 0 20;write 0 30 1;read 0 40;") = 4
            leaving() = -1
            read(0, 50) = 250
            list(2) = 30 20 10
            leaving() = 20
            write(0, 60, 1) = 0
            list(2) = 40 30 10
            leaving() = 40
            read(0, 70) = 350
            list(2) = 50 30 10
            write(0, 75, 2) = 0
            list(2) = 60 30 10
            leaving() = 10
            count(20) = 3
            count(21) = 0
            read(0, 90) = 450
            count(21) = 1
            block(10, 6) = 1
            """;

    private static final String P24 = """
            oldest() = -1
            addClient(1) = 0
            read(0, 1) = 5
            oldest() = -1
            write(0, 100, 1) = 0
            write(0, 50, 2) = 0
            write(0, 150, 2) = 0
            oldest() = 100
            write(0, 100, 2) = 0
            oldest() = 100
            flush(1) = 1
            oldest() = 100
            flush(1) = 1
            oldest() = 150
            write(0, 50, 3) = 0
            oldest() = 150
            forget(150) = true
            oldest() = 50
            """;

    private static final String P25 = """
            ages(0) = 0
            ages(-1) = throws.IndexOutOfBoundsException
            ages(3) = throws.IndexOutOfBoundsException
            addClient(1) = 0
            shape(3, 2) = 0
            write(0, 10, 1) = 0
            ages(0) = 0
            write(0, 30, 1) = 0
            ages(0) = 1
            read(0, 50) = 250
            ages(0) = 3
            read(0, 50) = 250
            ages(1) = 0
            write(0, 50, 1) = 0
            read(0, 70) = 350
            list(0) = 70 30
            list(1) = 50
            list(2) = 10
            ages(0) = 4
            ages(1) = 1
            ages(2) = 5
            """;

    private static final String P26 = """
            ownedAt(0, 0, 0) = throws.IndexOutOfBoundsException
            addClient(1) = 0
            addClient(1) = 1
            ownedAt(0, 0, 0) = -1
            ownedAt(2, 0, 0) = throws.IndexOutOfBoundsException
            ownedAt(-1, 0, 0) = throws.IndexOutOfBoundsException
            ownedAt(0, 3, 0) = throws.IndexOutOfBoundsException
            ownedAt(0, -1, 0) = throws.IndexOutOfBoundsException
            ownedAt(0, 0, -1) = throws.IndexOutOfBoundsException
            set(0, 20) = 4
            trace("read 0 10;read 1 20;read 0 30;read 1 40;read 1 10;") = 5
            list(0) = 40 30 20
            ownedAt(0, 0, 0) = 30
            ownedAt(0, 0, 1) = -1
            ownedAt(1, 0, 0) = 40
            ownedAt(1, 0, 1) = 20
            ownedAt(1, 0, 2) = -1
            ownedAt(1, 1, 0) = 10
            ownedAt(0, 1, 0) = -1
            ownedAt(1, 1, 2147483647) = -1
            set(0, 2) = 20
            trace("read 0 50 to 51;") = 2
            ownedAt(0, 2, 0) = 51
            ownedAt(1, 2, 0) = -1
            """;

    private static final String P27 = """
            excess(0) = throws.IndexOutOfBoundsException
            addClient(1) = 0
            excess(0) = -6.0
            read(0, 7) = 35
            excess(0) = -5.0
            setWeight(0, 2) = 1
            addClient(1) = 1
            shape(2, 4) = 1
            excess(2) = throws.IndexOutOfBoundsException
            excess(-1) = throws.IndexOutOfBoundsException
            excess(0) = -1.3333334
            excess(1) = -0.6666667
            read(0, 10) = 50
            read(0, 20) = 100
            excess(0) = 0.6666667
            read(0, 20) = 100
            excess(0) = 0.6666667
            read(1, 20) = 100
            excess(0) = -0.33333334
            excess(1) = 0.33333334
            setWeight(0, 1) = 2
            excess(0) = 0.0
            client(0, 10) = 0
            """;

    private static final String P28 = """
            toScan(0, 0) = throws.IndexOutOfBoundsException
            addClient(1) = 0
            toScan(1, 0) = throws.IndexOutOfBoundsException
            toScan(-1, 200) = throws.IndexOutOfBoundsException
            toScan(0, 200) = throws.IllegalArgumentException
            toScan(0, -1) = throws.IllegalArgumentException
            toScan(0, 0) = 4
            toScan(0, 196) = 4
            toScan(0, 197) = -1
            toScan(0, 199) = -1
            read(0, 5) = 25
            toScan(0, 6) = 3
            toScan(0, 5) = 4
            toScan(0, 7) = 4
            trace("read 0 6 to 7;") = 2
            toScan(0, 8) = 1
            read(0, 8) = 40
            toScan(0, 9) = 1
            toScan(0, 10) = 4
            set(0, 20) = 4
            toScan(0, 9) = 16
            trace("read 0 198;") = 1
            set(0, 2) = 20
            toScan(0, 199) = 1
            toScan(0, 198) = 2
            read(0, 199) = 995
            toScan(0, 0) = 2
            toScan(0, 199) = -1
            """;

    private static final String P29 = """
            rank(-1) = throws.IllegalArgumentException
            rank(200) = throws.IllegalArgumentException
            rank(0) = -1
            addClient(1) = 0
            trace("write 0 100 1;write 0 50 2;write 0 150 3;read 0 120;") = 4
            rank(50) = 0
            rank(100) = 1
            rank(150) = 2
            rank(120) = -1
            rank(121) = -1
            flush(1) = 1
            write(0, 50, 3) = 0
            rank(50) = 2
            rank(100) = 0
            forget(100) = true
            rank(100) = -1
            rank(150) = 0
            rank(50) = 1
            """;

    private static final String P30 = """
            between(0, 0, 199) = 0
            between(-1, 0, 199) = throws.IndexOutOfBoundsException
            between(5, 6, 5) = throws.IndexOutOfBoundsException
            between(0, -1, 5) = throws.IllegalArgumentException
            between(0, 200, 200) = throws.IllegalArgumentException
            between(0, 6, 5) = throws.IllegalArgumentException
            between(0, 0, 200) = throws.IllegalArgumentException
            addClient(1) = 0
            shape(2, 3) = 0
            set(0, 2) = 4
            trace("read 0 10;read 0 20;read 0 30;read 0 199;read 0 50 to 51;") = 6
            list(0) = 50 199
            list(2) = 51 30 20
            list(3) = 30 20
            between(0, 50, 199) = 2
            between(0, 51, 198) = 0
            between(0, 199, 199) = 1
            between(2, 20, 50) = 2
            between(2, 21, 51) = 2
            between(2, 20, 20) = 1
            between(3, 20, 30) = 2
            between(3, 0, 19) = 0
            between(4, 0, 199) = 0
            """;

    private static final String P31 = """
            longest(0) = 0
            longest(-1) = throws.IndexOutOfBoundsException
            longest(5) = throws.IndexOutOfBoundsException
            addClient(1) = 0
            set(0, 20) = 4
            trace("read 0 7;read 0 5;read 0 6;read 0 199;read 0 0;") = 5
            longest(0) = 3
            longest(1) = 0
            trace("read 0 9;read 0 11;read 0 13;read 0 15;") = 4
            list(3) = 6 5 7
            longest(3) = 3
            longest(2) = 3
            longest(0) = 1
            trace("read 0 8;") = 1
            longest(0) = 2
            list(3) = 199 6 5 7
            longest(3) = 3
            """;

    private static final String P32 = """
            differing() = 0
            addClient(1) = 0
            write(0, 10, 50) = 0
            differing() = 0
            write(0, 10, 51) = 0
            differing() = 1
            shape(2, 2) = 1
            block(10, 6) = 51
            differing() = 0
            write(0, 10, 50) = 0
            write(0, 20, 1) = 0
            write(0, 20, 2) = 0
            write(0, 30, 1) = 0
            list(2) = 10
            differing() = 3
            write(0, 10, 51) = 0
            differing() = 2
            flush(1) = 1
            differing() = 1
            flush(1) = 1
            differing() = 0
            order(0) = 10
            """;

    private static final String P33 = """
            stale(0) = 0
            stale(-1) = throws.IllegalArgumentException
            stale(-2147483648) = throws.IllegalArgumentException
            stale(2147483647) = 0
            addClient(1) = 0
            write(0, 10, 1) = 0
            stale(0) = 1
            stale(1) = 0
            read(0, 20) = 100
            write(0, 30, 1) = 0
            stale(0) = 2
            stale(1) = 1
            stale(2) = 1
            stale(3) = 0
            write(0, 10, 2) = 0
            stale(3) = 1
            stale(2147483647) = 0
            """;

    // ---- 34 to 36: predictions

    private static final String P34 = """
            wouldBe(0, 0, 0) = throws.IndexOutOfBoundsException
            addClient(1) = 0
            wouldBe(1, 200, 7) = throws.IndexOutOfBoundsException
            wouldBe(0, 200, 0) = throws.IllegalArgumentException
            wouldBe(0, -1, 0) = throws.IllegalArgumentException
            wouldBe(0, 0, -1) = throws.IllegalArgumentException
            wouldBe(0, 0, 7) = throws.IllegalArgumentException
            shape(2, 2) = 0
            set(0, 2) = 4
            wouldBe(0, 10, 0) = 2
            wouldBe(0, 10, 1) = 0
            wouldBe(0, 10, 2) = 0
            wouldBe(0, 10, 3) = -1
            wouldBe(0, 10, 4) = -1
            wouldBe(0, 10, 5) = 0
            wouldBe(0, 10, 6) = 0
            write(0, 10, 1) = 0
            wouldBe(0, 10, 0) = 0
            wouldBe(0, 10, 2) = 1
            wouldBe(0, 11, 1) = 1
            wouldBe(0, 11, 2) = 2
            write(0, 20, 2) = 0
            write(0, 30, 3) = 0
            write(0, 40, 4) = 0
            list(2) = 20 10
            wouldBe(0, 50, 0) = 2
            wouldBe(0, 50, 3) = 30
            wouldBe(0, 50, 4) = 10
            wouldBe(0, 50, 5) = 1
            wouldBe(0, 50, 6) = 0
            wouldBe(0, 41, 0) = 2
            wouldBe(0, 41, 3) = -1
            wouldBe(0, 41, 4) = 10
            wouldBe(0, 41, 5) = 1
            wouldBe(0, 20, 0) = 1
            wouldBe(0, 20, 2) = 1
            wouldBe(0, 20, 3) = 30
            wouldBe(0, 20, 4) = -1
            wouldBe(0, 20, 5) = 0
            wouldBe(0, 20, 6) = 1
            wouldBe(0, 40, 3) = -1
            read(0, 29) = 145
            wouldBe(0, 30, 0) = 1
            wouldBe(0, 30, 1) = 1
            wouldBe(0, 30, 2) = 2
            wouldBe(0, 30, 3) = -1
            wouldBe(0, 30, 6) = 0
            read(0, 39) = 195
            wouldBe(0, 40, 1) = 1
            count(5) = 6
            """;

    private static final String P34_35_LATER = """
            addClient(1) = 0
            shape(2, 2) = 0
            set(0, 2) = 4
            trace("read 0 10 to 13;write 0 50 1;flush 1;read 0 50;read 0 12;") = 7
            list(0) = 12
            list(1) = 50
            list(2) = 10 13
            list(3) = 10
            count(14) = 1
            count(15) = 1
            count(16) = 5
            count(19) = 1
            count(20) = 1
            count(21) = 1
            count(22) = 3
            wouldBe(0, 13, 0) = 1
            wouldBe(0, 13, 1) = 1
            wouldBe(0, 14, 1) = 0
            wouldBe(0, 12, 3) = -1
            wouldBe(0, 70, 3) = 12
            wouldBe(0, 70, 4) = 13
            wouldBe(0, 13, 4) = -1
            wouldBe(0, 70, 5) = 0
            ahead(0, 70, 1, 1, 0) = 0
            ahead(0, 70, 1, 1, 1) = 0
            ahead(0, 70, 1, 1, 2) = 1
            ahead(0, 70, 1, 1, 3) = 1
            ahead(0, 70, 1, 1, 4) = 0
            ahead(0, 70, 1, 1, 5) = 0
            ahead(0, 70, 1, 1, 6) = 0
            ahead(0, 12, 2, 1, 0) = 1
            ahead(0, 12, 2, 1, 1) = 1
            ahead(0, 12, 2, 1, 2) = 0
            ahead(0, 12, 2, 1, 3) = 0
            ahead(0, 12, 2, 1, 6) = 1
            ahead(0, 13, 1, 1, 6) = 1
            ahead(0, 10, 1, 1, 5) = 1
            read(0, 70) = 350
            list(2) = 12 10
            wouldBe(0, 70, 3) = -1
            wouldBe(0, 70, 4) = -1
            """;

    private static final String P35 = """
            ahead(0, 0, 1, 1, 0) = throws.IndexOutOfBoundsException
            addClient(1) = 0
            ahead(1, -1, 0, 0, 7) = throws.IndexOutOfBoundsException
            ahead(0, -1, 1, 1, 0) = throws.IllegalArgumentException
            ahead(0, 200, 1, 1, 0) = throws.IllegalArgumentException
            ahead(0, 0, 0, 1, 0) = throws.IllegalArgumentException
            ahead(0, 0, 41, 1, 0) = throws.IllegalArgumentException
            ahead(0, 161, 40, 1, 0) = throws.IllegalArgumentException
            ahead(0, 199, 2, 1, 0) = throws.IllegalArgumentException
            ahead(0, 199, 2147483647, 1, 0) = throws.IllegalArgumentException
            ahead(0, 0, 1, 0, 0) = throws.IllegalArgumentException
            ahead(0, 0, 1, 5, 0) = throws.IllegalArgumentException
            ahead(0, 0, 1, 1, -1) = throws.IllegalArgumentException
            ahead(0, 0, 1, 1, 7) = throws.IllegalArgumentException
            ahead(0, 160, 40, 4, 2) = 151
            ahead(0, 160, 40, 4, 0) = 9
            ahead(0, 160, 40, 4, 1) = 0
            ahead(0, 160, 40, 4, 6) = 148
            ahead(0, 199, 1, 1, 2) = 1
            ahead(0, 7, 1, 4, 0) = 3
            ahead(0, 7, 1, 4, 2) = 1
            ahead(0, 7, 1, 4, 6) = 0
            ahead(0, 0, 6, 2, 6) = 6
            shape(2, 3) = 0
            ahead(0, 0, 3, 1, 3) = 1
            ahead(0, 0, 3, 2, 3) = 3
            ahead(0, 0, 3, 2, 1) = 2
            ahead(0, 0, 3, 2, 5) = 2
            ahead(0, 0, 3, 1, 5) = 0
            write(0, 100, 1) = 0
            write(0, 120, 2) = 0
            ahead(0, 0, 8, 1, 4) = 0
            set(1, 0) = 8
            ahead(0, 50, 3, 1, 4) = 0
            set(0, 20) = 4
            ahead(0, 50, 5, 1, 4) = 0
            ahead(0, 50, 5, 1, 3) = 5
            write(0, 140, 3) = 3
            set(1, 8) = 0
            write(0, 100, 1) = 0
            write(0, 120, 2) = 0
            write(0, 140, 2) = 0
            write(0, 160, 3) = 0
            write(0, 180, 3) = 0
            count(12) = 5
            ahead(0, 50, 2, 1, 4) = 2
            ahead(0, 50, 1, 1, 4) = 1
            count(5) = 8
            """;

    private static final String P36 = """
            bestLength(0, 0, 1, 1) = throws.IndexOutOfBoundsException
            addClient(1) = 0
            bestLength(1, 200, 41, 5) = throws.IndexOutOfBoundsException
            bestLength(0, -1, 1, 1) = throws.IllegalArgumentException
            bestLength(0, 200, 1, 1) = throws.IllegalArgumentException
            bestLength(0, 0, 0, 1) = throws.IllegalArgumentException
            bestLength(0, 0, 41, 1) = throws.IllegalArgumentException
            bestLength(0, 160, 41, 1) = throws.IllegalArgumentException
            bestLength(0, 161, 40, 1) = throws.IllegalArgumentException
            bestLength(0, 0, 1, 0) = throws.IllegalArgumentException
            bestLength(0, 0, 1, 5) = throws.IllegalArgumentException
            bestLength(0, 50, 1, 1) = 2
            bestLength(0, 0, 11, 2) = 2
            bestLength(0, 0, 12, 2) = 3
            bestLength(0, 0, 16, 2) = 7
            count(0) = 4
            shape(16, 2) = 0
            trace("read 0 100 to 116;") = 17
            bestLength(0, 117, 4, 2) = 20
            bestLength(0, 117, 3, 2) = 19
            bestLength(0, 0, 1, 4) = 2
            bestLength(0, 0, 19, 2) = 17
            """;

    // ---- 37 to 41: output, undo, saved states

    private static final String P37_38 = """
            output(0) = -1
            show(-1) = throws.IndexOutOfBoundsException
            show(5) = throws.IndexOutOfBoundsException
            shown(0) =
            addClient(1) = 0
            shape(2, 4) = 0
            read(0, 0) = 0
            shown(0) = 0
            write(0, 199, 1) = 0
            shown(0) = 199*,0
            output(0) = 49
            output(3) = 42
            output(4) = 44
            output(5) = 48
            output(6) = -1
            output(-1) = -1
            output(2147483647) = -1
            output(-2147483648) = -1
            show(5) = throws.IndexOutOfBoundsException
            output(0) = 49
            write(0, 10, 1) = 0
            read(0, 100) = 500
            shown(0) = 100,10*
            output(5) = 48
            output(6) = 42
            shown(2) = 199*,0
            shown(3) = 199,0
            shown(4) =
            output(0) = -1
            read(0, 10) = 1
            shown(1) = 10*
            flush(40) = 2
            output(2) = 42
            shown(1) = 10
            output(2) = -1
            shown(2) = 199,0
            undo() = 7
            output(0) = 49
            output(4) = 48
            shown(2) = 199*,0
            """;

    private static final String P37_LONG = """
            addClient(1) = 0
            set(1, 40) = 8
            shape(2, 24) = 0
            trace("write 0 100 1;write 0 102 1;write 0 104 1;write 0 106 1;write 0 108 1;write 0 110 1;") = 6
            trace("write 0 112 1;write 0 114 1;write 0 116 1;write 0 118 1;write 0 120 1;write 0 122 1;") = 6
            trace("write 0 124 1;write 0 126 1;write 0 128 1;write 0 130 1;write 0 132 1;write 0 134 1;") = 6
            trace("write 0 136 1;write 0 138 1;write 0 140 1;write 0 142 1;write 0 144 1;write 0 146 1;") = 6
            trace("write 0 148 1;write 0 150 1;") = 2
            count(9) = 24
            show(2) = 119
            output(118) = 42
            output(117) = 48
            output(119) = -1
            """;

    private static final String P39 = """
            undo() = -1
            addClient(2) = 0
            undo() = 0
            count(6) = 0
            undo() = -1
            addClient(2) = 0
            mark(a) = void
            setWeight(0, 5) = 2
            mark(b) = void
            set(0, 2) = 4
            mark(c) = void
            shape(2, 2) = 0
            mark(d) = void
            read(0, 10) = 50
            mark(e) = void
            write(0, 11, 3) = 0
            mark(f) = void
            flush(1) = 1
            mark(g) = void
            forget(11) = true
            mark(h) = void
            trace("write 0 20 1;write 0 30 2;read 0 10;read 0 40;flush 1;write 0 50 5;write 0 60 5;") = 6
            mark(i) = void
            count(23) = 8
            trace("write 0 20") = -1
            count(23) = 8
            setWeight(0, 10) = throws.IllegalArgumentException
            text("abc") = 3
            show(2) = 6
            save(1) = void
            undo() = 7
            same(h) = true
            undo() = 6
            same(g) = true
            undo() = 5
            same(f) = true
            undo() = 4
            same(e) = true
            undo() = 3
            same(d) = true
            undo() = 2
            same(c) = true
            undo() = 1
            same(b) = true
            undo() = 0
            same(a) = true
            undo() = -1
            same(a) = true
            output(0) = 52
            errorCode() = 1
            errorPosition() = 10
            truncateText(3) = 3
            restore(1) = void
            same(i) = true
            undo() = -1
            """;

    private static final String P39_RING = """
            addClient(1) = 0
            trace("") = 0
            trace("") = 0
            trace("") = 0
            flush(1) = 0
            flush(2) = 0
            forget(3) = false
            set(1, 1) = 8
            count(23) = 8
            set(1, 2) = 1
            set(1, 3) = 2
            count(23) = 8
            undo() = 7
            undo() = 6
            count(1) = 1
            set(1, 5) = 1
            count(23) = 7
            undo() = 6
            count(1) = 1
            undo() = 5
            count(1) = 8
            undo() = 4
            undo() = 3
            undo() = 2
            undo() = 1
            undo() = 0
            undo() = -1
            count(6) = 1
            """;

    private static final String P40_41 = """
            save(-1) = throws.IllegalArgumentException
            save(2) = throws.IllegalArgumentException
            restore(-1) = throws.IllegalArgumentException
            restore(2) = throws.IllegalArgumentException
            restore(0) = throws.IllegalStateException
            save(0) = void
            mark(new) = void
            restore(1) = throws.IllegalStateException
            addClient(3) = 0
            shape(2, 2) = 0
            trace("write 0 10 1;write 0 20 2;write 0 30 3;write 0 40 4;read 0 50;read 0 20;read 0 21;") = 7
            count(23) = 3
            mark(a) = void
            save(1) = void
            count(23) = 3
            same(a) = true
            trace("read 0 22 to 30;write 0 40 5;flush 3;") = 10
            addClient(4) = 1
            set(0, 9) = 4
            mark(b) = void
            restore(1) = void
            same(a) = true
            count(23) = 0
            undo() = -1
            same(a) = true
            read(0, 60) = 300
            write(0, 10, 7) = 0
            undo() = 1
            restore(1) = void
            same(a) = true
            undo() = -1
            trace("read 0 22 to 30;write 0 40 5;flush 3;") = 10
            addClient(4) = 1
            set(0, 9) = 4
            same(b) = true
            save(1) = void
            trace("flush 41") = -1
            text("x") = 1
            show(0) = 2
            restore(0) = void
            same(new) = true
            errorCode() = 2
            truncateText(1) = 1
            output(0) = 50
            restore(1) = void
            same(b) = true
            restore(2) = throws.IllegalArgumentException
            undo() = -1
            """;

    public static void main(String[] args) {
        String[][] runs = {{"1", P01}, {"2", P02}, {"3", P03}, {"4", P04}, {"4 (LIMIT)", P04_LIMIT},
            {"5, 6 (latest)", P05_06_LATEST}, {"7", P07}, {"7 (again)", P07_AGAIN}, {"7 (restored)", P07_RESTORED}, {"8", P08}, {"9", P09}, {"10", P10},
            {"accesses", ACCESSES}, {"targets", TARGETS}, {"target down", TARGET_DOWN}, {"target ratio", TARGET_RATIO}, {"scans", SCANS}, {"shares", SHARES},
            {"shares (exact)", SHARES_EXACT}, {"shares (frequent)", SHARES_FREQUENT}, {"11", P11}, {"12", P12}, {"13", P13}, {"14", P14}, {"15", P15}, {"16", P16},
            {"16 (leaving)", P16_LEAVING}, {"16 (edges)", P16_EDGES}, {"17", P17}, {"18", P18}, {"19", P19}, {"20", P20}, {"21", P21},
            {"22", P22}, {"23", P23}, {"24", P24}, {"25", P25}, {"26", P26}, {"27", P27}, {"28", P28}, {"29", P29},
            {"30", P30}, {"31", P31}, {"32", P32}, {"33", P33}, {"34", P34}, {"34, 35 (later)", P34_35_LATER}, {"35", P35}, {"36", P36},
            {"37, 38", P37_38}, {"37 (long)", P37_LONG}, {"39", P39}, {"39 (ring)", P39_RING}, {"40, 41", P40_41}};
        for (String[] run : runs) {
            startAfresh();
            for (String line : run[1].split("\n")) {
                int split = line.lastIndexOf(" =");
                check("promise " + run[0], line.substring(0, split), line.substring(split + 2).trim());
            }
        }
        errors();
        System.out.println(wrong == 0 ? checked + " answers are as due" : wrong + " answers are not as due");
        if (wrong != 0) {
            System.exit(1);
        }
    }

    private static void errors() {
        for (String[] row : P05_06) {
            startAfresh();
            check("promise 5, 6", "addClient(1)", "0");
            String text = row[0].replace("<40>", "read 0 5;".repeat(40)).replace("<39>", "read 0 5;".repeat(39));
            if (row[1].equals("0")) {
                check("promise 5, 6", "text(\"" + text + "\")", String.valueOf(text.length()));
                tell(y -> y.runTrace());
            } else {
                check("promise 5, 6", "trace(\"" + text + "\")", "-1");
                check("promise 5, 6", "count(23)", "1");
                check("promise 5, 6", "count(5)", "0");
            }
            check("promise 5, 6: " + row[0], "errorCode()", row[1]);
            check("promise 5, 6: " + row[0], "errorPosition()", row[2]);
            check("promise 4", "truncateText(0)", "0");
            check("promise 4", "truncateText(1)", "throws.IllegalArgumentException");
        }
    }

    private static void startAfresh() {
        x = new GhostLayers();
        made = new ArrayList<>();
        marks = new HashMap<>();
    }

    private static void check(String where, String call, String due) {
        int open = call.indexOf('(');
        String name = call.substring(0, open);
        String inner = call.substring(open + 1, call.length() - 1);
        List<Integer> before = all();
        String got = answer(name, inner);
        checked++;
        if (!got.equals(due)) {
            wrong++;
            System.out.println(where + ": " + call + " answered " + got + ", due is " + due);
        }
        boolean mayChange = ACTS.contains(" " + name + " ") || "text trace fill shown".contains(name);
        if ((got.startsWith("throws.") || !mayChange) && !before.equals(all())) {
            wrong++;
            System.out.println(where + ": " + call + " changed something");
        }
    }

    private static String answer(String name, String inner) {
        switch (name) {
            case "text": return String.valueOf(appendAll(inner.substring(1, inner.length() - 1)));
            case "trace":
                appendAll(inner.substring(1, inner.length() - 1));
                return String.valueOf(tell(y -> y.runTrace()));
            case "fill":
                Object length = 0;
                for (int i = 0; i < Integer.parseInt(inner); i++) {
                    length = tell(y -> y.appendText(0x20202020));
                }
                return String.valueOf(length);
            case "list": return blocksOf(Integer.parseInt(inner));
            case "shown": return shown(Integer.parseInt(inner));
            case "mark":
                marks.put(inner, withoutActs());
                return "void";
            case "same": return String.valueOf(withoutActs().equals(marks.get(inner)));
            default: return invoke(name, inner);
        }
    }

    /** In texts a bar stands for a line feed and a roof for a tab. */
    private static int appendAll(String text) {
        String whole = text.replace('|', '\n').replace('^', '\t');
        int length = 0;
        for (int at = 0; at < whole.length(); at += 4) {
            int word = 0;
            for (int k = 0; k < 4; k++) {
                word = word << 8 | (at + k < whole.length() ? whole.charAt(at + k) : ' ');
            }
            int fourBytes = word;
            length = (Integer) tell(y -> y.appendText(fourBytes));
        }
        int rest = length - (4 - whole.length() % 4) % 4;
        return (Integer) tell(y -> y.truncateText(rest));
    }

    private static String blocksOf(int list) {
        StringBuilder blocks = new StringBuilder();
        for (int place = 0; place < 25; place++) {
            int here = place;
            Object block = tell(y -> y.at(list, here));
            if (block.equals(GhostLayers.NONE)) {
                return blocks.toString();
            }
            blocks.append(place == 0 ? "" : " ").append(block);
        }
        return "no end";
    }

    private static String shown(int list) {
        int length = (Integer) tell(y -> y.show(list));
        StringBuilder text = new StringBuilder();
        for (int i = 0; i < length; i++) {
            int index = i;
            text.append((char) (int) (Integer) tell(y -> y.output(index)));
        }
        return tell(y -> y.output(length)).equals(GhostLayers.NONE) ? text.toString() : "more than " + length;
    }

    private static String invoke(String name, String inner) {
        String[] words = inner.isEmpty() ? new String[0] : inner.split(", ");
        for (Method method : GhostLayers.class.getDeclaredMethods()) {
            if (!method.getName().equals(name) || method.getParameterCount() != words.length) {
                continue;
            }
            Object[] values = new Object[words.length];
            for (int i = 0; i < words.length; i++) {
                values[i] = method.getParameterTypes()[i] == boolean.class
                        ? (Object) Boolean.parseBoolean(words[i]) : (Object) numberIn(words[i]);
            }
            return (String) tell(y -> answerOf(y, method, values));
        }
        return "no method";
    }

    private static String answerOf(GhostLayers object, Method method, Object[] values) {
        try {
            Object got = method.invoke(object, values);
            return method.getReturnType() == void.class ? "void" : String.valueOf(got);
        } catch (InvocationTargetException e) {
            return "throws." + e.getCause().getClass().getSimpleName();
        } catch (IllegalAccessException e) {
            return "no access";
        }
    }

    /** Makes a call, and notes it for those who look. */
    private static Object tell(Function<GhostLayers, Object> call) {
        made.add(call);
        if (made.size() == MOST_CALLS + 1) {
            wrong++;
            System.out.println("more than " + MOST_CALLS + " calls");
        }
        return call.apply(x);
    }

    /** Objects behind the same calls; none is asked more than an object may be. */
    private static final class Again {
        private GhostLayers object;
        private int calls = MOST_CALLS;

        GhostLayers next() {
            if (calls >= MOST_CALLS) {
                object = new GhostLayers();
                made.forEach(call -> call.apply(object));
                calls = made.size();
            }
            calls++;
            return object;
        }
    }

    private static int numberIn(String word) {
        return word.startsWith("0x") ? Integer.parseUnsignedInt(word.substring(2), 16) : Integer.parseInt(word);
    }

    private static List<Integer> all() {
        List<Integer> row = withoutActs();
        Again again = new Again();
        row.add(again.next().count(23));
        row.add(again.next().errorCode());
        row.add(again.next().errorPosition());
        for (int i = 0; i < 125; i++) {
            row.add(again.next().output(i));
        }
        row.add(textLength());
        return row;
    }

    /** What is appended tells the length; if that is refused, what can be cut off does. */
    private static int textLength() {
        try {
            return new Again().next().appendText(0) - 4;
        } catch (IllegalStateException e) {
            return longTextLength();
        }
    }

    private static int longTextLength() {
        Again again = new Again();
        for (int length = 600; length > 596; length--) {
            try {
                return again.next().truncateText(length);
            } catch (IllegalArgumentException e) {
                continue;
            }
        }
        return 0;
    }

    private static List<Integer> withoutActs() {
        List<Integer> row = new ArrayList<>();
        Again again = new Again();
        for (int what = 0; what < 23; what++) {
            row.add(again.next().count(what));
        }
        int clients = row.get(6);
        for (int i = 0; i < clients * 11; i++) {
            row.add(again.next().client(i / 11, i % 11));
        }
        for (int i = 0; i < 1400; i++) {
            row.add(again.next().block(i / 7, i % 7));
        }
        for (int i = 0; i < 150; i++) {
            row.add(again.next().at(i / 30, i % 30));
        }
        return row;
    }
}
