import java.lang.reflect.InvocationTargetException;
import java.lang.reflect.Method;
import java.util.ArrayList;
import java.util.HashMap;
import java.util.List;
import java.util.Map;
import java.util.Objects;
import java.util.Set;
import java.util.TreeSet;
import java.util.regex.Matcher;
import java.util.regex.Pattern;

/**
 * The document's sentences that name a boundary case, one test each. A line behind a # is the
 * sentence: it starts on a new object. Each other line is a call and the answer that is due; a list
 * of numbers (1 2 3, or 1..3) in place of an argument is a call for each of them, with an answer
 * for each, or one answer that all of them give.
 *
 * Behind every line it is looked whether anything changed that the call must leave as it is, and
 * whether undo() takes an act back. Whoever looks makes the calls again on new objects, so that no
 * object is asked more than the 512 calls that the document allows.
 */
public final class BoundaryTest {
    private static final int MOST_CALLS = 512;

    // ---- the terms

    private static final String BLOCKS_UNITS_LISTS = """
            # There are 200 blocks, numbered from 0.
            block(0 199, 6) = 0 995
            block(-1 200 -2147483648 2147483647, 6) = throws.IllegalArgumentException
            addClient(1) = 0
            read(0, 0 199) = 0 995
            read(0, -1 200) = throws.IllegalArgumentException
            list(0) = 199 0

            # A block has a value in the store, at first 5 times its number, modulo 1000.
            block(0 1 2 100 198 199, 6) = 0 5 10 500 990 995

            # A block has a value of 0 to 999.
            addClient(1) = 0
            write(0, 10, 0 999) = 0
            block(10, 2) = 999
            write(0, 10, -1 1000) = throws.IllegalArgumentException
            flush(1) = 1
            block(10, 6) = 999

            # A unit is clean, or dirty since a time.
            addClient(1) = 0
            read(0, 10) = 50
            block(10, 4) = -1
            write(0, 20, 7) = 0
            block(20, 4) = 2
            flush(1) = 1
            block(20, 4) = -1

            # RECENT and FREQUENT have at most UP units together: a full upper layer.
            addClient(1) = 0
            read(0, 10 20 30 40 50) = 50 100 150 200 250
            read(0, 60) = 300
            count(7..9) = 6 0 0
            count(19) = 0
            read(0, 10) = 50
            count(7..9) = 5 1 0
            count(19) = 0
            read(0, 70) = 350
            count(7..9) = 5 1 1
            count(19) = 1
            list(2) = 20

            # LOWER has at most LOW units: a full LOWER.
            addClient(1) = 0
            shape(2, 2) = 0
            read(0, 10 20 30 40) = 50 100 150 200
            list(2) = 20 10
            count(20) = 0
            read(0, 50) = 250
            list(2) = 30 20
            count(20) = 1

            # A block has at most one unit.
            addClient(1) = 0
            shape(2, 4) = 0
            set(0, 2) = 4
            read(0, 10 20 30 10) = 50 100 150 50
            list(0) = 30
            list(1) = 10
            list(2) = 20
            read(0, 60 61 62 60 61) = 300 305 310 300 305
            list(2) = 61 62 10 20
            between(2, 61, 61) = 1

            # There are at most UP ghosts of RECENT: a full list of ghosts.
            addClient(1) = 0
            shape(2, 24) = 0
            read(0, 10 20 30 40) = 50 100 150 200
            list(3) = 20 10
            read(0, 50) = 250
            list(3) = 30 20
            block(10, 5) = -1
            block(10, 0) = 2

            # There are at most UP ghosts of FREQUENT: a full list of ghosts.
            addClient(1) = 0
            shape(2, 24) = 0
            read(0, 10 10 20 20 30 30 40 40) = 50 50 100 100 150 150 200 200
            list(1) = 40 30
            list(4) = 20 10
            read(0, 50) = 250
            list(4) = 30 20
            block(10, 5) = -1
            block(10, 0) = 2

            # Each list of ghosts has its own room: UP blocks of RECENT and UP blocks of FREQUENT.
            addClient(1) = 0
            shape(2, 24) = 0
            read(0, 10 10 20 20 30 30 40) = 50 50 100 100 150 150 200
            list(4) = 20 10
            read(0, 50 60) = 250 300
            list(3) = 50 40
            list(4) = 20 10
            read(0, 70) = 350
            list(3) = 60 50
            list(4) = 20 10

            # A block with a unit in the upper layer is in no list of ghosts.
            addClient(1) = 0
            shape(2, 24) = 0
            read(0, 10 10 20 20 30) = 50 50 100 100 150
            block(10, 0 5) = 2 4
            read(0, 40) = 200
            block(30, 0 5) = 2 3
            read(0, 30) = 150
            block(30, 0 5) = 1 -1
            list(3) =
            list(4) = 20 10
            read(0, 10) = 50
            block(10, 0 5) = 1 -1
            list(4) = 20

            # No block is in both lists of ghosts.
            addClient(1) = 0
            shape(2, 24) = 0
            read(0, 10 20 30) = 50 100 150
            list(3) = 10
            read(0, 10 40) = 50 200
            list(3) = 20
            list(4) = 10
            block(10, 5) = 4
            read(0, 10 50) = 50 250
            list(3) = 40 30
            list(4) =

            # A block with a unit in LOWER can be a ghost, and a ghost can be without a unit.
            addClient(1) = 0
            shape(3, 2) = 0
            read(0, 10 20 30 40 50 60) = 50 100 150 200 250 300
            list(2) = 30 20
            list(3) = 30 20 10
            block(30, 0 5) = 2 3
            block(10, 0 5) = -1 3

            # All lists have places from 0 on; what comes into a list comes to the place 0.
            addClient(1) = 0
            shape(3, 24) = 0
            read(0, 10 20) = 50 100
            list(0) = 20 10
            block(20 10, 1) = 0 1
            read(0, 10 20) = 50 100
            list(1) = 20 10
            block(20 10, 1) = 0 1
            read(0, 30 40 50) = 150 200 250
            list(2) = 40 30
            list(3) = 40 30
            block(40 30, 1) = 0 1
            at(2, 0 1 2) = 40 30 -1
            read(0, 50 60 60 70) = 250 300 300 350
            list(1) = 60 50
            list(2) = 20 10 40 30
            list(4) = 20 10
            at(4, 0 1 2) = 20 10 -1

            # There is a TARGET, at first 0.
            count(4) = 0
            addClient(1) = 0
            read(0, 10 20 30) = 50 100 150
            count(4) = 0
            """;

    private static final String CLIENTS = """
            # There are at most 4 clients, numbered from 0.
            addClient(1 9 5 2) = 0 1 2 3
            addClient(1) = throws.IllegalStateException
            count(6) = 4
            client(0..3, 0) = 1 9 5 2
            client(-1 4 2147483647 -2147483648, 0) = throws.IndexOutOfBoundsException

            # A client has a weight of 1 to 9.
            addClient(0 10 -1 2147483647 -2147483648) = throws.IllegalArgumentException
            addClient(1 9) = 0 1
            setWeight(0, 0 10) = throws.IllegalArgumentException
            setWeight(0, 9 1) = 1 9

            # A client has too much if its units times the sum are greater than UP times its weight, not if they are the same.
            addClient(1 2) = 0 1
            shape(3, 4) = 0
            read(0, 10) = 50
            client(0 1, 10) = 0
            read(0, 20) = 100
            client(0 1, 10) = 1 0
            forget(20) = true
            read(1, 30 40) = 150 200
            client(0 1, 10) = 0
            read(1, 10) = 50
            client(0 1, 10) = 0 1

            # A client has too much where it is greater by no more than 1: 2 times 2 against 3 times 1.
            addClient(1 1) = 0 1
            shape(3, 4) = 0
            read(0, 10) = 50
            read(1, 20 30) = 100 150
            client(0 1, 10) = 0 1
            victim(false) = 20
            read(0, 40) = 200
            list(0) = 40 30 10

            # Only its units in the upper layer count for that.
            addClient(1 1) = 0 1
            shape(2, 4) = 0
            set(0, 2) = 4
            read(0, 10 11 12) = 50 55 60
            client(0, 1 2 10) = 1 2 0

            # Its units in both lists of the upper layer count for that.
            addClient(1 1) = 0 1
            shape(2, 4) = 0
            read(0, 10 10 20) = 50 50 100
            count(7 8) = 1
            client(0, 1 10) = 2 1

            # The weights of all clients count for that, as they are now.
            addClient(1) = 0
            shape(2, 4) = 0
            read(0, 10 20) = 50 100
            client(0, 10) = 0
            addClient(1) = 1
            client(0, 10) = 1
            setWeight(0, 9) = 1
            client(0, 10) = 1
            undo() = 5
            undo() = 4
            client(0, 10) = 0

            # A client has a LAST block (none at first) and a RUN (0 at first).
            addClient(1) = 0
            client(0, 3 4) = 0 -1
            read(0, 0) = 0
            client(0, 3 4) = 1 0

            # Without a LAST block the block 0 is not the one behind it.
            addClient(1) = 0
            set(0, 2) = 4
            wouldBe(0, 0, 1) = 0
            toScan(0, 0) = 2
            read(0, 0) = 0
            client(0, 3) = 1
            count(22) = 0

            # The block 0 is not the one behind the block 199.
            addClient(1) = 0
            set(0, 2) = 4
            read(0, 199) = 995
            wouldBe(0, 0, 1) = 0
            read(0, 0) = 0
            client(0, 3 4) = 1 0
            count(22) = 0

            # RUN becomes 1 greater if the block is the one behind LAST, otherwise 1.
            addClient(1) = 0
            read(0, 50 51 52) = 250 255 260
            client(0, 3 4) = 3 52
            read(0, 52) = 260
            client(0, 3 4) = 1 52
            read(0, 53) = 265
            client(0, 3 4) = 2 53
            read(0, 55) = 275
            client(0, 3 4) = 1 55
            read(0, 54) = 270
            client(0, 3 4) = 1 54
            read(0, 55) = 275
            client(0, 3 4) = 2 55
            read(0, 198 199) = 990 995
            client(0, 3 4) = 2 199

            # LAST and RUN are looked at when it reads or writes.
            addClient(1) = 0
            read(0, 10) = 50
            write(0, 11, 1) = 0
            client(0, 3 4) = 2 11
            write(0, 12, 1) = 0
            client(0, 3 4) = 3 12
            read(0, 13) = 65
            client(0, 3 4) = 4 13

            # Each client has its own LAST and RUN.
            addClient(1 1) = 0 1
            read(0, 10) = 50
            read(1, 11) = 55
            client(1, 3 4) = 1 11
            read(0, 11) = 55
            client(0, 3 4) = 2 11
            client(1, 3 4) = 1 11

            # The access is a scan if the RUN is LENGTH or more: LENGTH 4, as at first.
            addClient(1) = 0
            read(0, 0 1 2) = 0 5 10
            count(22) = 0
            wouldBe(0, 3, 1) = 1
            read(0, 3) = 15
            count(22) = 1
            read(0, 4) = 20
            count(22) = 2
            read(0, 6) = 30
            count(22) = 2

            # The least LENGTH is 2.
            addClient(1) = 0
            set(0, 2) = 4
            read(0, 100) = 500
            count(22) = 0
            read(0, 101) = 505
            count(22) = 1

            # The greatest LENGTH is 20.
            addClient(1) = 0
            set(0, 20) = 4
            trace("read 0 181 to 198;") = 18
            read(0, 179) = 895
            trace("read 0 180 to 197;") = 18
            client(0, 3) = 19
            count(22) = 0
            read(0, 198) = 990
            count(22) = 1

            # RUN stays what it is under another LENGTH.
            addClient(1) = 0
            set(0, 20) = 4
            trace("read 0 10 to 16;") = 7
            set(0, 2) = 20
            client(0, 3) = 7
            read(0, 17) = 85
            count(22) = 1
            set(0, 9) = 2
            read(0, 18) = 90
            count(22) = 2
            set(0, 11) = 9
            read(0, 19) = 95
            count(22) = 2
            read(0, 20) = 100
            count(22) = 3
            """;

    private static final String ACCESSES = """
            # The time is the number of accesses so far (0 at first).
            count(5) = 0
            addClient(1) = 0
            flush(1) = 0
            forget(1) = false
            set(1, 0) = 8
            shape(2, 2) = 0
            trace("flush 1;") = 0
            wouldBe(0, 1, 0) = 2
            ahead(0, 1, 5, 4, 6) = 8
            count(5) = 0
            read(0, 1 1) = 5
            count(5) = 2
            write(0, 1, 2) = 1
            count(5) = 3
            trace("read 0 2 to 5;") = 4
            count(5) = 7

            # An access first makes the time 1 greater.
            addClient(1) = 0
            write(0, 10, 1) = 0
            block(10, 4) = 1
            read(0, 20) = 100
            write(0, 20, 1) = 0
            block(20, 4) = 3

            # 1. An upper hit that is no scan: the unit goes to the place 0 of FREQUENT.
            addClient(1) = 0
            read(0, 10 20 30) = 50 100 150
            read(0, 20) = 100
            list(0) = 30 10
            list(1) = 20
            read(0, 10) = 50
            list(1) = 10 20
            read(0, 10) = 50
            list(1) = 10 20
            read(0, 20) = 100
            list(1) = 20 10
            count(14 15 16) = 4 0 3

            # 1. An upper hit that is a scan: the unit stays where it is.
            addClient(1) = 0
            set(0, 2) = 4
            read(0, 11 10) = 55 50
            read(0, 11) = 55
            list(0) = 10 11
            list(1) =
            count(14 22) = 1 1
            read(0, 11 50 10) = 55 250 50
            list(1) = 10 11
            read(0, 11) = 55
            list(1) = 10 11
            count(14 22) = 4 2

            # 2. A scan, the unit is in LOWER: a lower hit, it goes to the place 0 of LOWER; nothing leaves a full LOWER.
            addClient(1) = 0
            shape(2, 2) = 0
            set(0, 2) = 4
            read(0, 10 11 12) = 50 55 60
            list(2) = 12 11
            read(0, 10) = 50
            wouldBe(0, 11, 0..6) = 1 1 2 -1 -1 0 0
            read(0, 11) = 55
            list(2) = 11 12
            count(15 20) = 1 0
            read(0, 12) = 60
            list(2) = 12 11
            count(15 20) = 2 0

            # 2. A scan without a unit: a miss, a clean unit comes into LOWER; room is made ahead of that.
            addClient(1) = 0
            shape(2, 2) = 0
            set(0, 2) = 4
            read(0, 10 11) = 50 55
            list(0) = 10
            list(2) = 11
            block(11, 2 4) = 55 -1
            read(0, 12) = 60
            list(2) = 12 11
            count(20) = 0
            wouldBe(0, 13, 0..6) = 2 1 2 -1 11 0 0
            read(0, 13) = 65
            list(2) = 13 12
            count(16 20 22) = 4 1 3

            # 2. The new unit has the value of the store.
            addClient(1) = 0
            set(0, 2) = 4
            write(0, 11, 7) = 0
            flush(1) = 1
            forget(11) = true
            read(0, 10 11) = 50 7
            block(11, 0 2 4) = 2 7 -1

            # 2. Ghosts do not matter: a scan of a ghost in LOWER.
            addClient(1) = 0
            shape(2, 4) = 0
            set(0, 2) = 4
            read(0, 10 20 30 9) = 50 100 150 45
            list(3) = 20 10
            wouldBe(0, 10, 0..6) = 1 1 2 -1 -1 0 0
            read(0, 10) = 50
            list(2) = 10 20
            list(3) = 20 10
            count(4 17 18) = 0

            # 2. Ghosts do not matter: a scan of a ghost without a unit.
            addClient(1) = 0
            shape(3, 2) = 0
            set(0, 2) = 4
            read(0, 10 20 30 40 50 60 19) = 50 100 150 200 250 300 95
            list(2) = 40 30
            list(3) = 40 30 20
            read(0, 20) = 100
            list(2) = 20 40
            list(3) = 40 30 20
            block(20, 0 5) = 2 3
            count(4 17 18) = 0

            # 2. Ghosts do not matter: a scan of a ghost of FREQUENT.
            addClient(1) = 0
            shape(2, 4) = 0
            set(0, 2) = 4
            read(0, 10 10 20 20 9) = 50 50 100 100 45
            list(4) = 10
            read(0, 10) = 50
            list(1) = 20
            list(2) = 10
            list(4) = 10
            count(4 17 18) = 0

            # 3. A lower hit: the unit leaves LOWER, so a full LOWER needs no room for the one that is demoted.
            addClient(1) = 0
            shape(2, 2) = 0
            read(0, 10 20 30 40) = 50 100 150 200
            list(2) = 20 10
            wouldBe(0, 10, 0..6) = 1 0 1 30 -1 0 1
            read(0, 10) = 50
            list(0) = 40
            list(1) = 10
            list(2) = 30 20
            count(15 19 20) = 1 3 0

            # 3. A lower hit keeps its value, and stays clean or dirty as it is.
            addClient(1) = 0
            shape(2, 4) = 0
            write(0, 10, 7) = 0
            read(0, 20 30 40) = 100 150 200
            block(10, 0 2 4) = 2 7 1
            read(0, 10) = 7
            block(10, 0 2 4) = 1 7 1
            read(0, 20) = 100
            block(20, 0 2 4) = 1 100 -1
            block(10, 0 2 4) = 2 7 1

            # 3. A miss: there is a new clean unit with the value of the store.
            addClient(1) = 0
            write(0, 10, 7) = 0
            flush(1) = 1
            write(0, 10, 8) = 0
            forget(10) = true
            read(0, 10) = 7
            block(10, 2 4 6) = 7 -1 7

            # 3. TARGET becomes greater by 1 if h / g is less than 1.
            addClient(1) = 0
            shape(3, 24) = 0
            read(0, 10 20 30 40) = 50 100 150 200
            count(10 11) = 1 0
            read(0, 10) = 50
            count(4 17) = 1 1
            count(10 11) = 1 0

            # 3. TARGET becomes greater by h / g, with the block itself among the ghosts.
            addClient(1) = 0
            shape(4, 24) = 0
            trace("read 0 10;read 0 10;read 0 30;read 0 30;read 0 50;read 0 50;read 0 70;read 0 70;") = 8
            trace("read 0 90;read 0 90;read 0 110;read 0 110;read 0 130;read 0 150;") = 6
            list(3) = 130
            list(4) = 50 30 10
            wouldBe(0, 130, 6) = 3
            read(0, 130) = 650
            count(4 17) = 3 1

            # 3. h / g is rounded down: 3 / 2.
            addClient(1) = 0
            shape(4, 24) = 0
            trace("read 0 10;read 0 10;read 0 30;read 0 30;read 0 50;read 0 50;read 0 70;read 0 70;") = 8
            trace("read 0 90;read 0 90;read 0 110;read 0 110;read 0 130;read 0 150;read 0 170;") = 7
            list(3) = 150 130
            list(4) = 50 30 10
            read(0, 130) = 650
            count(4) = 1

            # 3. TARGET becomes at most UP, and stays at UP.
            addClient(1) = 0
            shape(2, 24) = 0
            read(0, 10 10 20 30 20) = 50 50 100 150 100
            count(4) = 1
            list(4) = 10
            read(0, 40 50) = 200 250
            list(3) = 30
            list(4) = 20 10
            read(0, 30) = 150
            count(4 17) = 2 2
            list(3) = 40
            read(0, 40) = 200
            count(4 17) = 2 3

            # 3. TARGET becomes less by 1 if g / h is less than 1.
            addClient(1) = 0
            shape(2, 24) = 0
            read(0, 10 10 20 30 20 40) = 50 50 100 150 100 200
            count(4 10 11) = 1 0 2
            read(0, 50 30) = 250 150
            count(4 10 11) = 2 1 2
            forget(40) = true
            count(10 11) = 0 2
            read(0, 10) = 50
            count(4 18) = 1 1

            # 3. TARGET becomes less by g / h, rounded down: 4 / 2 and 3 / 2; the block itself is among the ghosts.
            addClient(1) = 0
            shape(4, 24) = 0
            trace("read 0 10;read 0 10;read 0 30;read 0 30;read 0 50;read 0 50;read 0 70;read 0 70;") = 8
            trace("read 0 90;read 0 90;read 0 110;read 0 110;read 0 130;read 0 150;read 0 130;") = 7
            count(4) = 3
            trace("read 0 170;read 0 190;read 0 12;read 0 14;read 0 150;read 0 170;") = 6
            count(4) = 4
            list(0) = 14 12 190
            list(1) = 170
            list(4) = 150 130 110 90
            read(0, 1 3 5 7) = 5 15 25 35
            list(0) = 7 5 3 1
            list(3) = 14 12 190
            list(4) = 170 150 130 110
            forget(110 130) = true
            wouldBe(0, 150, 6) = 3
            read(0, 9) = 45
            list(3) = 1 14 12 190
            wouldBe(0, 150, 6) = 2
            read(0, 150) = 750
            count(4 18) = 2 1

            # 3. TARGET becomes at least 0 where g / h is greater than it.
            addClient(1) = 0
            shape(3, 24) = 0
            read(0, 10 10 30 50 70 30) = 50 50 150 250 350 150
            count(4) = 1
            read(0, 50 130 150) = 250 650 750
            count(4) = 2
            list(0) = 150 130 70
            list(1) =
            list(3) =
            list(4) = 50 30 10
            read(0, 170 190 12) = 850 950 60
            list(3) = 150 130 70
            forget(10 30) = true
            count(10 11) = 3 1
            read(0, 50) = 250
            count(4 18) = 0 1

            # 3. TARGET stays at 0.
            addClient(1) = 0
            shape(2, 24) = 0
            read(0, 10 10 20 20 30) = 50 50 100 100 150
            list(4) = 10
            count(4) = 0
            read(0, 10) = 50
            count(4 18) = 0 1

            # 3. It is no ghost any more then, ahead of the room: the oldest ghost stays.
            addClient(1) = 0
            shape(2, 24) = 0
            read(0, 10 20 30 40) = 50 100 150 200
            list(3) = 20 10
            read(0, 20) = 100
            list(3) = 30 10

            # 3. TARGET changes ahead of the room: it is greater for it.
            addClient(1) = 0
            shape(2, 24) = 0
            read(0, 10 10 20 30) = 50 50 100 150
            list(0) = 30
            list(1) = 10
            list(3) = 20
            victim(false) = 30
            wouldBe(0, 20, 3) = 10
            read(0, 20) = 100
            list(0) = 30
            list(1) = 20
            list(4) = 10

            # 3. TARGET changes ahead of the room: it is less for it.
            addClient(1) = 0
            shape(3, 24) = 0
            trace("read 0 10;read 0 10;read 0 30;read 0 30;read 0 50;read 0 50;read 0 70;read 0 90;read 0 70;") = 9
            read(0, 110 130) = 550 650
            list(4) = 50 30 10
            forget(50 30) = true
            read(0, 90 130) = 450 650
            count(4) = 2
            list(0) = 110
            list(1) = 130 90
            list(4) = 70 10
            victim(true) = 90
            wouldBe(0, 10, 3) = 110
            read(0, 10) = 50
            count(4) = 1
            list(0) =
            list(1) = 10 130 90
            list(3) = 110
            list(4) = 70

            # 3. The unit comes into FREQUENT if the block was a ghost, with a unit in LOWER or without one.
            addClient(1) = 0
            shape(3, 2) = 0
            read(0, 10 20 30 40 50 60) = 50 100 150 200 250 300
            block(10 30, 0) = -1 2
            read(0, 10) = 50
            list(1) = 10
            read(0, 30) = 150
            list(1) = 30
            count(15 16 17) = 1 7 2

            # 3. Otherwise it comes into RECENT, with a unit in LOWER or without one.
            addClient(1 1) = 0 1
            set(0, 2) = 4
            read(0, 10 11) = 50 55
            block(11, 0 5) = 2 -1
            read(1, 11) = 55
            list(0) = 11 10
            count(15) = 1

            # The client becomes the owner of the unit in all these cases.
            addClient(1 1) = 0 1
            set(0, 2) = 4
            read(0, 10 11 12) = 50 55 60
            read(1, 10) = 50
            block(10 11 12, 3) = 1 0 0
            read(1, 11 12) = 55 60
            block(10 11 12, 3) = 1
            block(11, 0) = 2
            read(0, 9 10) = 45 50
            block(10, 0 3) = 1 0
            read(0, 12) = 60
            block(12, 0 3) = 0 0
            write(1, 12, 5) = 0
            block(12, 0 3) = 1 1
            write(1, 13, 5) = 0
            block(13, 0 3) = 2 1

            # A write gives the unit its value; if it was clean, it is dirty since the present time.
            addClient(1) = 0
            read(0, 10) = 50
            write(0, 10, 7) = 0
            block(10, 2 4 6) = 7 2 50
            write(0, 10, 8) = 0
            block(10, 2 4) = 8 2

            # ... also if the value is the same.
            addClient(1) = 0
            write(0, 10, 50) = 0
            block(10, 2 4) = 50 1
            count(12) = 1
            flush(1) = 1
            write(0, 10, 50) = 0
            block(10, 4) = 2

            # At the end of a write, as long as there are more than LIMIT dirty units, the next one is written back.
            addClient(1) = 0
            set(1, 2) = 8
            write(0, 10, 1) = 0
            write(0, 30, 3) = 0
            count(12) = 2
            write(0, 20, 2) = 1
            count(12 13) = 2 11
            write(0, 30, 4) = 0
            count(12 13) = 2 11

            # ... LIMIT 0: every write is written back.
            addClient(1) = 0
            set(1, 0) = 8
            write(0, 10, 1) = 1
            block(10, 2 4 6) = 1 -1 1
            count(12 13) = 0 11

            # ... LIMIT 40: as many as the layers hold, 16 and 24.
            addClient(1) = 0
            set(1, 40) = 8
            shape(16, 24) = 0
            trace("<write 0 199 1;*5>") = 5
            trace("write 0 2 1;write 0 4 1;write 0 6 1;write 0 8 1;write 0 10 1;write 0 12 1;write 0 14 1;") = 7
            trace("write 0 16 1;write 0 18 1;write 0 20 1;write 0 22 1;write 0 24 1;write 0 26 1;") = 6
            trace("write 0 28 1;write 0 30 1;write 0 32 1;write 0 34 1;write 0 36 1;write 0 38 1;") = 6
            trace("write 0 40 1;write 0 42 1;write 0 44 1;write 0 46 1;write 0 48 1;write 0 50 1;") = 6
            trace("write 0 52 1;write 0 54 1;write 0 56 1;write 0 58 1;write 0 60 1;write 0 62 1;") = 6
            trace("write 0 64 1;write 0 66 1;write 0 68 1;write 0 70 1;write 0 72 1;write 0 74 1;") = 6
            write(0, 76, 1) = 0
            write(0, 78, 1) = 0
            count(12 21) = 40 0
            write(0, 80, 1) = 1
            count(12 20 21) = 40 1 1
            flush(40) = 40
            count(12) = 0

            # ... at the end of a write, not of a read.
            addClient(1) = 0
            write(0, 10, 1) = 0
            set(1, 0) = 8
            read(0, 20 10) = 100 1
            count(12 21) = 1 0
            trace("read 0 50 to 60;") = 11
            count(12 21) = 1 0
            write(0, 20, 1) = 2
            count(12 21) = 0 2

            # ... the unit of this very write among them, if it is the next one.
            addClient(1) = 0
            set(1, 1) = 8
            write(0, 30, 1) = 0
            write(0, 10, 2) = 1
            block(10, 4 6) = -1 2
            block(30, 4 6) = 1 150
            """;

    private static final String ROOM = """
            # Room is made in the upper layer if it has UP units, not if it has less.
            addClient(1) = 0
            shape(2, 4) = 0
            read(0, 10) = 50
            victim(false true) = -1
            wouldBe(0, 20, 3) = -1
            read(0, 20) = 100
            count(19) = 0
            wouldBe(0, 30, 3) = 10
            read(0, 30) = 150
            count(19) = 1
            count(7 8 9) = 2 0 1

            # An upper hit needs no room, nor does a scan in the upper layer.
            addClient(1) = 0
            shape(2, 4) = 0
            set(0, 2) = 4
            read(0, 10 20 10 20) = 50 100 50 100
            count(19) = 0
            read(0, 21 22) = 105 110
            count(7..9) = 0 2 2
            count(19) = 0

            # One is demoted, also behind a shape() that leaves the least sizes.
            addClient(1) = 0
            shape(16, 24) = 0
            read(0, 10 20 30 40 50 60 70 80) = 50 100 150 200 250 300 350 400
            shape(2, 2) = 8
            read(0, 10 20 30) = 50 100 150
            count(7..9) = 2 0 1
            count(19) = 1

            # It is from RECENT if RECENT has more than TARGET units.
            addClient(1) = 0
            shape(2, 24) = 0
            read(0, 10 10 20) = 50 50 100
            count(4 7 8) = 0 1 1
            victim(false true) = 20
            read(0, 30) = 150
            list(0) = 30
            list(1) = 10

            # If RECENT has just TARGET units, it is from FREQUENT.
            addClient(1) = 0
            shape(2, 24) = 0
            read(0, 10 10 20 30 20) = 50 50 100 150 100
            count(4 7 8) = 1 1 1
            victim(false) = 20
            read(0, 40) = 200
            list(0) = 40 30
            list(1) =
            list(4) = 20 10

            # If RECENT has just TARGET units, and the block was a ghost of RECENT, it is from FREQUENT.
            addClient(1) = 0
            shape(2, 24) = 0
            read(0, 10 10 20 30) = 50 50 100 150
            count(4 7 8) = 0 1 1
            read(0, 20) = 100
            count(4) = 1
            list(0) = 30
            list(1) = 20

            # If RECENT has just TARGET units, and the block was a ghost of FREQUENT, it is from RECENT.
            addClient(1) = 0
            shape(2, 24) = 0
            read(0, 10 10 20 30 20) = 50 50 100 150 100
            victim(true) = 30
            read(0, 40 50 30) = 200 250 150
            count(4 7 8) = 2 1 1
            list(0) = 50
            list(4) = 20 10
            read(0, 10) = 50
            count(4) = 1
            list(0) =
            list(1) = 10 30
            list(3) = 50 40

            # If RECENT has less than TARGET units, it is from FREQUENT, also behind a ghost of FREQUENT.
            addClient(1) = 0
            shape(3, 24) = 0
            read(0, 10 10 30 30 50 50) = 50 50 150 150 250 250
            read(0, 70 90 70 110 130 90 130) = 350 450 350 550 650 450 650
            count(4) = 3
            list(0) = 110
            list(1) = 130 90
            list(4) = 70 50 30
            victim(false true) = 90
            read(0, 30) = 150
            count(4) = 2
            list(0) = 110
            list(1) = 30 130
            list(4) = 90 70 50

            # If FREQUENT has none, it is from RECENT, whatever TARGET is: TARGET at UP.
            addClient(1) = 0
            shape(2, 24) = 0
            read(0, 10 10 20 30 20 40 50) = 50 50 100 150 100 200 250
            list(0) = 50 40
            list(1) =
            list(3) = 30
            wouldBe(0, 30, 3 6) = 40 2
            read(0, 30) = 150
            list(0) = 50
            list(1) = 30
            forget(30) = true
            read(0, 60) = 300
            count(4 7 8) = 2 2 0
            victim(false true) = 50
            read(0, 70) = 350
            list(0) = 70 60

            # If RECENT has none, it is from FREQUENT, also at TARGET 0 behind a ghost of FREQUENT.
            addClient(1) = 0
            shape(2, 24) = 0
            read(0, 10 10 20 20) = 50 50 100 100
            count(4 7 8) = 0 0 2
            victim(false true) = 10
            read(0, 30 30) = 150
            list(4) = 10
            victim(false true) = 20
            read(0, 10) = 50
            count(4 18) = 0 1
            list(1) = 10 30
            list(4) = 20

            # Of this list it is the unit with the greatest place whose owner has too much.
            addClient(1 1) = 0 1
            shape(4, 24) = 0
            read(0, 10) = 50
            read(1, 20 40 60) = 100 200 300
            client(0 1, 10) = 0 1
            victim(false) = 20
            read(0, 80) = 400
            list(0) = 80 60 40 10
            list(3) = 20

            # ... in FREQUENT as well.
            addClient(1 1) = 0 1
            shape(4, 24) = 0
            read(0, 10 10) = 50
            read(1, 20 20 40 40 60 60) = 100 100 200 200 300 300
            victim(false) = 20
            read(0, 80) = 400
            list(1) = 60 40 10
            list(4) = 20

            # ... also if this is the first client.
            addClient(1 1) = 0 1
            shape(4, 24) = 0
            read(1, 10) = 50
            read(0, 20 40 60) = 100 200 300
            client(0 1, 10) = 1 0
            victim(false) = 20
            read(1, 80) = 400
            list(0) = 80 60 40 10

            # ... also if it is the unit at the place 0.
            addClient(1 1) = 0 1
            shape(3, 24) = 0
            read(1, 50 50) = 250
            read(0, 10) = 50
            read(1, 20) = 100
            list(0) = 20 10
            client(0 1, 10) = 0 1
            victim(false) = 20
            read(0, 30) = 150
            list(0) = 30 10

            # ... but not if its owner has just its share, however often it is asked.
            addClient(2 1 1) = 0 1 2
            shape(4, 24) = 0
            read(2, 50 50 60 60) = 250 250 300 300
            read(0, 10) = 50
            read(1, 20) = 100
            client(0..2, 10) = 0 0 1
            excess(0..2) = -1.0 0.0 1.0
            victim(false true) = 10
            victim(false true) = 10
            read(1, 70) = 350
            list(0) = 70 20

            # ... nor if the first client is the one that has just its share.
            addClient(1 2 1) = 0 1 2
            shape(4, 24) = 0
            read(2, 50 50 60 60) = 250 250 300 300
            read(1, 10) = 50
            read(0, 20) = 100
            client(0..2, 10) = 0 0 1
            victim(false true) = 10
            victim(false true) = 10
            read(0, 70) = 350
            list(0) = 70 20

            # If there is none, it is the one with the greatest place.
            addClient(1 1) = 0 1
            shape(4, 24) = 0
            read(0, 10) = 50
            read(1, 20) = 100
            read(0, 30) = 150
            read(1, 40) = 200
            client(0 1, 10) = 0
            victim(false) = 10
            read(1, 50) = 250
            list(0) = 50 40 30 20
            list(3) = 10

            # ... also if a unit of the other list has an owner with too much.
            addClient(1 1) = 0 1
            shape(4, 24) = 0
            read(1, 20 20 40 40 60 60) = 100 100 200 200 300 300
            read(0, 10) = 50
            client(0 1, 10) = 0 1
            victim(false) = 10
            read(1, 80) = 400
            list(0) = 80
            list(1) = 60 40 20

            # ... and with one client alone, which never has too much.
            addClient(9) = 0
            shape(2, 24) = 0
            read(0, 10 20) = 50 100
            client(0, 10) = 0
            victim(false) = 10

            # Its block becomes a ghost of this list: a ghost of RECENT.
            addClient(1) = 0
            shape(2, 24) = 0
            read(0, 10 20 30) = 50 100 150
            list(3) = 10
            list(4) =

            # Its block becomes a ghost of this list: a ghost of FREQUENT.
            addClient(1) = 0
            shape(2, 24) = 0
            read(0, 10 10 20 20 30) = 50 50 100 100 150
            list(3) =
            list(4) = 10

            # If there are UP such ghosts, the one with the greatest place goes first: UP 16.
            addClient(1) = 0
            shape(16, 2) = 0
            read(0, 0 2 4 6 8 10 12 14 16 18 20 22 24 26 28 30) = 0 10 20 30 40 50 60 70 80 90 100 110 120 130 140 150
            read(0, 32 34 36 38 40 42 44 46) = 160 170 180 190 200 210 220 230
            read(0, 48 50 52 54 56 58 60 62) = 240 250 260 270 280 290 300 310
            list(3) = 30 28 26 24 22 20 18 16 14 12 10 8 6 4 2 0
            read(0, 64) = 320
            list(3) = 32 30 28 26 24 22 20 18 16 14 12 10 8 6 4 2
            block(0, 5) = -1
            count(7 9) = 16 2

            # The unit comes into LOWER as clean or dirty as it is.
            addClient(1 1) = 0 1
            shape(2, 4) = 0
            write(1, 10, 7) = 0
            read(0, 20 30) = 100 150
            block(10, 0 2 3 4 6) = 2 7 1 1 50
            read(0, 40) = 200
            block(20, 0 2 3 4) = 2 100 0 -1
            list(2) = 20 10
            count(21) = 0

            # There is room made in LOWER ahead of that: the unit that comes does not leave.
            addClient(1) = 0
            shape(2, 2) = 0
            write(0, 10, 1) = 0
            write(0, 20, 2) = 0
            read(0, 30 40) = 150 200
            list(2) = 20 10
            read(0, 50) = 250
            list(2) = 30 20
            count(20 21) = 1 1

            # Room is made in LOWER if it has LOW units, not if it has less.
            addClient(1) = 0
            shape(2, 3) = 0
            read(0, 10 20 30 40) = 50 100 150 200
            leaving() = -1
            read(0, 50) = 250
            count(9 20) = 3 0
            leaving() = 10
            read(0, 60) = 300
            count(9 20) = 3 1
            list(2) = 40 30 20

            # Of the clean ones the one with the greatest place leaves, be there dirty ones behind it.
            addClient(1) = 0
            shape(2, 4) = 0
            write(0, 10, 1) = 0
            read(0, 20 30) = 100 150
            write(0, 40, 1) = 0
            read(0, 50 60) = 250 300
            list(2) = 40 30 20 10
            leaving() = 20
            read(0, 70) = 350
            list(2) = 50 40 30 10
            leaving() = 30
            count(20 21) = 1 0
            block(20, 0) = -1

            # ... also if it is the one at the place 0.
            addClient(1) = 0
            shape(2, 2) = 0
            write(0, 10, 1) = 0
            read(0, 20 30 40) = 100 150 200
            list(2) = 20 10
            leaving() = 20
            write(0, 50, 1) = 0
            list(2) = 30 10

            # If there is no clean one, the one with the greatest place is written back and leaves.
            addClient(1) = 0
            shape(2, 2) = 0
            write(0, 150, 1) = 0
            write(0, 10, 2) = 0
            write(0, 20, 3) = 0
            write(0, 30, 4) = 0
            list(2) = 10 150
            leaving() = 150
            order(0) = 10
            write(0, 40, 5) = 1
            block(150, 0 2 4 6) = -1 -1 -1 1
            count(13 20 21) = 151 1 1
            list(2) = 20 10
            """;

    private static final String WRITING_BACK = """
            # To write a unit back: the block has its value in the store, the unit is clean and stays, HEAD is the block plus 1.
            addClient(1) = 0
            write(0, 10, 7) = 0
            block(10, 0 2 4 6) = 0 7 1 50
            flush(1) = 1
            block(10, 0 2 4 6) = 0 7 -1 7
            count(12 13 21) = 0 11 1

            # HEAD is 0 at first.
            count(13) = 0
            addClient(1) = 0
            write(0, 199, 1) = 0
            write(0, 0, 1) = 0
            order(0 1) = 0 199

            # HEAD is 199 behind the block 198, and 0 behind the block 199.
            addClient(1) = 0
            write(0, 198, 1) = 0
            flush(1) = 1
            count(13) = 199
            write(0, 0, 2) = 0
            write(0, 199, 3) = 0
            write(0, 198, 4) = 0
            order(0..3) = 199 0 198 -1
            flush(1) = 1
            count(13) = 0
            order(0..2) = 0 198 -1
            flush(1) = 1
            count(13) = 1
            flush(1) = 1
            count(13) = 199

            # HEAD behind the block 199 is 0 also where LIMIT or LOWER writes back.
            addClient(1) = 0
            set(1, 0) = 8
            write(0, 199, 1) = 1
            count(13) = 0
            set(1, 8) = 0
            shape(2, 2) = 1
            write(0, 199, 2) = 0
            write(0, 10, 2) = 0
            write(0, 20, 3) = 0
            write(0, 30, 4) = 0
            write(0, 40, 4) = 1
            count(13 20) = 0 1

            # The order: those with blocks from HEAD on, by ascending numbers, then the others, by ascending numbers.
            addClient(1) = 0
            write(0, 50, 1) = 0
            flush(1) = 1
            write(0, 199, 1) = 0
            write(0, 52, 1) = 0
            write(0, 51, 1) = 0
            write(0, 50, 1) = 0
            write(0, 49, 1) = 0
            write(0, 0, 1) = 0
            order(0..6) = 51 52 199 0 49 50 -1
            rank(0 49 50 51 52 199) = 3 4 5 0 1 2
            flush(2) = 2
            count(13) = 53
            order(0..4) = 199 0 49 50 -1
            flush(40) = 4
            count(13) = 51

            # The next one is the first in this order, each time anew.
            addClient(1) = 0
            set(1, 1) = 8
            write(0, 100, 1) = 0
            write(0, 50, 1) = 1
            count(13) = 51
            order(0) = 100
            write(0, 60, 1) = 1
            count(13) = 61
            order(0) = 100
            write(0, 10, 1) = 1
            count(13) = 101
            order(0) = 10

            # What is not written back leaves HEAD as it is.
            addClient(1) = 0
            write(0, 100, 1) = 0
            flush(1) = 1
            flush(1) = 0
            forget(100) = true
            read(0, 150) = 750
            set(1, 2) = 8
            addClient(1) = 1
            count(13) = 101
            """;

    private static final String SETTINGS = """
            # The settings at first.
            count(0..3) = 4 8 6 10

            # LENGTH is 2 to 20.
            set(0, 1 21 0 -1 -2147483648 2147483647) = throws.IllegalArgumentException
            count(0) = 4
            set(0, 2 20 4) = 4 2 20
            count(0) = 4

            # LIMIT is 0 to 40.
            set(1, -1 41 -2147483648 2147483647) = throws.IllegalArgumentException
            count(1) = 8
            set(1, 0 40 8) = 8 0 40
            count(1) = 8

            # UP is 2 to 16, LOW is 2 to 24.
            shape(1 17 0 -1 -2147483648 2147483647, 10) = throws.IllegalArgumentException
            shape(6, 1 25 0 -1 -2147483648 2147483647) = throws.IllegalArgumentException
            count(2 3) = 6 10
            shape(2, 2) = 0
            count(2 3) = 2 2
            shape(16, 24) = 0
            count(2 3) = 16 24
            """;

    private static final String TRACES = """
            # The text buffer has at most 600 bytes.
            text("<flush 1; *66>flush ") = 600
            appendText(0x20202020) = throws.IllegalStateException
            truncateText(599 598 597) = 599 598 597
            appendText(0x20202020) = throws.IllegalStateException
            truncateText(596) = 596
            appendText(0x20202020) = 600
            appendText(0) = throws.IllegalStateException

            # A text of 600 bytes is read whole.
            error("<flush 1;       *40>") = 0 -1
            error("<flush 1;       *39>flush 1;      x") = 1 599
            error("<flush 1;       *39>flush 1        ") = 1 600
            error("<flush 1;       *39>flush 1       ;") = 0 -1

            # An empty text is a trace, and so is one of spaces and line feeds.
            error("") = 0 -1
            error(" ") = 0 -1
            error("|") = 0 -1
            error("<| *300>") = 0 -1

            # Words are maximal runs of the letters a to z.
            error("read 0 5;") = 0 -1
            error("read0 5;") = 0 -1
            error("readread 0 5;") = 1 0
            error("rea d 0 5;") = 1 0
            error("reader 0 5;") = 1 0
            error("rea") = 1 0
            error("Read 0 5;") = 1 0
            error("reAd 0 5;") = 1 0
            error("az") = 1 0
            error("read 0 5to6;") = 0 -1
            error("read 0 5too6;") = 1 8
            error("flush<h*500>") = 1 0
            error("head 0 5;") = 1 0
            error("reed 0 5;") = 1 0
            error("white 0 5 5;") = 1 0
            error("slush 1;") = 1 0
            error("read 0 5 do 6;") = 1 9

            # Numbers are maximal runs of the digits 0 to 9.
            error("read 05;") = 2 5
            error("read 0 199;") = 0 -1
            error("read 0 19 9;") = 1 10
            error("read 3 50to 90;") = 0 -1
            error("flush1;") = 0 -1
            error("flush 09;") = 0 -1

            # The symbol ; is a token of its own.
            error("flush 1;flush 2;") = 0 -1
            error("flush 1;;") = 1 8
            error("flush 1 ;") = 0 -1
            error(";") = 1 0

            # Spaces and line feeds may stand before, between and behind tokens.
            error(" ||  read|0  | 5|to |6 |;| |flush| |3||; ") = 0 -1
            error("write|0|5|6|;") = 0 -1

            # Numbers may have any number of digits: a trace that is done.
            addClient(1) = 0
            trace("read 0 <0*300>7;write 00 007 00009;") = 2
            block(7, 2) = 9

            # Numbers may have any number of digits.
            error("flush <0*592>1;") = 0 -1
            error("flush <0*592>0;") = 2 6
            error("flush <9*593>;") = 2 6
            error("read 0 <0*500>199;") = 0 -1
            error("read 0 <0*500>200;") = 2 7
            error("read 4294967296 5;") = 2 5
            error("read 4294967297 5;") = 2 5
            error("read 18446744073709551616 5;") = 2 5
            error("read 2147483648 5;") = 2 5
            error("read 0 4294967301;") = 2 7
            error("read 0 10000000000000000000000000000005;") = 2 7
            error("write 0 5 4294967296;") = 2 10
            error("flush 4294967297;") = 2 6
            error("flush 340282366920938463463374607431768211457;") = 2 6

            # CLIENT is 0 to 3.
            error("read 0 5;read 3 5;write 0 5 5;write 3 5 5;") = 0 -1
            error("read 4 5;") = 2 5
            error("write 4 5 5;") = 2 6
            error("read 10 5;") = 2 5

            # BLOCK is a block, 0 to 199.
            error("read 0 0;read 0 199;write 0 0 5;write 0 199 5;") = 0 -1
            error("read 0 200;") = 2 7
            error("write 0 200 5;") = 2 8
            error("read 0 5 to 200;") = 2 12
            error("read 0 5 to 1000;") = 2 12

            # VALUE is a value, 0 to 999.
            error("write 0 5 0;write 0 5 999;") = 0 -1
            error("write 0 5 1000;") = 2 10

            # N is 1 to 40.
            error("flush 1;flush 40;") = 0 -1
            error("flush 0;") = 2 6
            error("flush 41;") = 2 6

            # With "to" all blocks from the first to the second one are read, one after the other.
            addClient(1) = 0
            set(0, 20) = 4
            trace("read 0 10 to 13;") = 4
            list(0) = 13 12 11 10
            client(0, 3 4 5) = 4 13 4
            trace("read 0 198 to 199;") = 2
            client(0, 3 4 5) = 2 199 6
            trace("read 0 0 to 1;") = 2
            client(0, 3 4 5) = 2 1 8

            # The second block is not less than the first one: it can be the same.
            addClient(1) = 0
            trace("read 0 10 to 10;") = 1
            list(0) = 10
            trace("read 0 199 to 199;") = 1
            trace("read 0 0 to 0;") = 1
            error("read 0 10 to 9;") = 2 13
            error("read 0 199 to 198;") = 2 14
            error("read 0 1 to 0;") = 2 12

            # All blocks can be read at once.
            addClient(1) = 0
            trace("read 0 0 to 199;") = 200
            count(5 16 22) = 200 200 197
            client(0, 3) = 200

            # Only "read" has a "to".
            error("write 0 5 to 6;") = 1 10
            error("write 0 5 6 to 7;") = 1 12
            error("flush 5 to 6;") = 1 8
            error("read 0 5 to 6 to 7;") = 1 14
            error("to 6;") = 1 0

            # The parser stops at the first token that is wrong.
            error("flush 41;flush x;?") = 2 6
            error("flush x;flush 41;?") = 1 6
            error("?flush 41;") = 1 0
            error("read 4 200 to 100 ;") = 2 5
            error("read 0 200 to 100 ;") = 2 7
            error("flush 1 flush 41;") = 1 8

            # The error position is the index of the first byte of the token.
            error("  |flush  |  0041;") = 2 13
            error("flush 1;  |flushes 1;") = 1 11
            error("flush 1  ?") = 1 9
            error("flush 1;?") = 1 8

            # ... or the length of the text if the text ends too early.
            error("read") = 1 4
            error("read ") = 1 5
            error("read 0") = 1 6
            error("read 0| ") = 1 8
            error("read 0 5") = 1 8
            error("read 0 5 ") = 1 9
            error("read 0 5 to") = 1 11
            error("read 0 5 to ") = 1 12
            error("read 0 5 to 6") = 1 13
            error("read 0 5 to 6||") = 1 15
            error("write") = 1 5
            error("write 0") = 1 7
            error("write 0 5") = 1 9
            error("write 0 5 6") = 1 11
            error("flush") = 1 5
            error("flush 1") = 1 7
            error("flush 1;flush 1") = 1 15
            error("read 0 5 <|*591>") = 1 600

            # Code 1: the token is not allowed there.
            error("5") = 1 0
            error("read;") = 1 4
            error("read read 0 5;") = 1 5
            error("read to;") = 1 5
            error("read 0;") = 1 6
            error("read 0 to 5;") = 1 7
            error("read 0 5 flush 1;") = 1 9
            error("read 0 5 6;") = 1 9
            error("read 0 5 to;") = 1 11
            error("read 0 5 to to 6;") = 1 12
            error("read 0 5 to 6 7;") = 1 14
            error("write;") = 1 5
            error("write 0;") = 1 7
            error("write 0 5;") = 1 9
            error("write 0 5 x;") = 1 10
            error("write 0 5 6 7;") = 1 12
            error("flush;") = 1 5
            error("flush flush 1;") = 1 6
            error("flush 1 2;") = 1 8

            # Code 1: a byte belongs to no token.
            error("?") = 1 0
            error("flush ?1;") = 1 6
            error("flush -1;") = 1 6
            error("flush 1,") = 1 7
            error("flush^1;") = 1 5

            # Of several codes the least: a number that is out of range where none is allowed is code 1.
            error("200") = 1 0
            error("read 0 5 200;") = 1 9
            error("read 0 5 to 6 200;") = 1 14
            error("flush 1 41;") = 1 8
            error("write 0 5 6 1000;") = 1 12

            # Code 3 for the first word of a 41st command; 40 commands are a trace.
            error("<flush 1;*40>") = 0 -1
            error("<flush 1;*40>  |") = 0 -1
            error("<flush 1;*40>flush 1;") = 3 320
            error("<flush 1;*40>  read") = 3 322
            error("<flush 1;*40>write") = 3 320
            error("<flush 1;*40>flush 41;") = 3 320
            error("<flush 1;*41>flush x;") = 3 320
            error("<flush 1;*39>read 0 5;") = 0 -1
            error("<flush 1;*39>flush 41;flush 1;") = 2 318

            # ... of several codes the least: behind 40 commands what begins none is code 1.
            error("<flush 1;*40>to") = 1 320
            error("<flush 1;*40>flushes") = 1 320
            error("<flush 1;*40>;") = 1 320
            error("<flush 1;*40>1") = 1 320
            error("<flush 1;*40> ?") = 1 321

            # A text that has an error does nothing, not even its first commands.
            addClient(1) = 0
            write(0, 10, 1) = 0
            trace("read 0 5;flush 1;read 0 6") = -1
            trace("read 0 5;flush 1;flush 41;") = -1
            count(5 12 23) = 1 1 2
            block(5, 0) = -1
            """;

    private static final String UNDO = """
            # Acts are the calls of nine methods that throw no exception; the latest 8 can be undone, the ninth not.
            addClient(1) = 0
            count(23) = 1
            mark(first) = void
            setWeight(0, 2) = 1
            count(23) = 2
            set(0, 3) = 4
            count(23) = 3
            shape(3, 3) = 0
            count(23) = 4
            read(0, 10) = 50
            count(23) = 5
            write(0, 20, 1) = 0
            count(23) = 6
            flush(1) = 1
            count(23) = 7
            forget(20) = true
            count(23) = 8
            trace("read 0 30;write 0 40 1;") = 2
            count(23) = 8
            undo() = 7
            undo() = 6
            undo() = 5
            undo() = 4
            undo() = 3
            undo() = 2
            undo() = 1
            undo() = 0
            same(first) = true
            count(6 23) = 1 0
            undo() = -1
            same(first) = true

            # The eighth act from the end can be undone.
            addClient(1) = 0
            flush(1) = 0
            flush(1) = 0
            flush(1) = 0
            flush(1) = 0
            flush(1) = 0
            flush(1) = 0
            flush(1) = 0
            count(6 23) = 1 8
            undo() = 7
            undo() = 6
            undo() = 5
            undo() = 4
            undo() = 3
            undo() = 2
            undo() = 1
            undo() = 0
            count(6 23) = 0

            # Calls that change nothing are acts as well.
            addClient(1) = 0
            setWeight(0, 1) = 1
            set(0, 4) = 4
            shape(6, 10) = 0
            flush(40) = 0
            forget(0) = false
            trace("") = 0
            count(23) = 7
            trace("read 3 1;") = 0
            count(23) = 8

            # Calls that throw an exception are none.
            addClient(1) = 0
            addClient(0) = throws.IllegalArgumentException
            setWeight(0, 0) = throws.IllegalArgumentException
            setWeight(1, 1) = throws.IndexOutOfBoundsException
            set(0, 1) = throws.IllegalArgumentException
            shape(1, 2) = throws.IllegalArgumentException
            read(0, 200) = throws.IllegalArgumentException
            write(0, 0, 1000) = throws.IllegalArgumentException
            flush(0) = throws.IllegalArgumentException
            forget(200) = throws.IllegalArgumentException
            count(23) = 1
            undo() = 0
            count(6) = 0

            # runTrace() is one act, if its text has no error; with an error it is none.
            addClient(1) = 0
            mark(ahead) = void
            trace("read 0 1 to 9;write 0 5 5;flush 1;") = 10
            count(23) = 2
            trace("read 0 1 to 9;write 0 5 5;flush 0;") = -1
            count(23) = 2
            undo() = 1
            same(ahead) = true

            # No other call is an act.
            addClient(1) = 0
            text("flush 1;") = 8
            truncateText(7) = 7
            show(0) = 0
            save(0) = void
            wouldBe(0, 5, 0) = 2
            ahead(0, 5, 5, 4, 0) = 9
            bestLength(0, 5, 5, 4) = 2
            count(23) = 1
            undo() = 0
            undo() = -1
            restore(0) = void
            count(23) = 0

            # An act behind an undo() takes the place of the one that was undone.
            addClient(1) = 0
            read(0, 10) = 50
            undo() = 1
            read(0, 20) = 100
            count(5 23) = 1 2
            list(0) = 20
            undo() = 1
            list(0) =
            undo() = 0
            undo() = -1
            count(6) = 0

            # What lies further back than 8 acts does not come back by undo().
            addClient(1) = 0
            read(0, 10 20 30 40 50 60 70 80 90 100) = 50 100 150 200 250 300 350 400 450 500
            count(5 23) = 10 8
            undo() = 7
            undo() = 6
            read(0, 110) = 550
            count(23) = 7
            undo() = 6
            undo() = 5
            undo() = 4
            undo() = 3
            undo() = 2
            undo() = 1
            undo() = 0
            undo() = -1
            count(5 6) = 2 1
            list(0) = 20 10
            """;

    private static final String EXCEPTIONS = """
            # A method that throws an exception changes nothing.
            addClient(1) = 0
            shape(2, 2) = 0
            write(0, 10, 1) = 0
            write(0, 20, 1) = 0
            read(0, 30 40 10) = 150 200 1
            show(2) = 6
            save(0) = void
            trace("flush 41;") = -1
            text("flush 1;") = 8
            truncateText(9 -1) = throws.IllegalArgumentException
            addClient(0 10) = throws.IllegalArgumentException
            setWeight(0, 0 10) = throws.IllegalArgumentException
            setWeight(-1 1, 5) = throws.IndexOutOfBoundsException
            set(-1 2, 5) = throws.IllegalArgumentException
            set(0, 1 21) = throws.IllegalArgumentException
            set(1, -1 41) = throws.IllegalArgumentException
            shape(1 17, 5) = throws.IllegalArgumentException
            shape(5, 1 25) = throws.IllegalArgumentException
            count(-1 24) = throws.IllegalArgumentException
            client(-1 1, 0) = throws.IndexOutOfBoundsException
            client(0, -1 11) = throws.IllegalArgumentException
            block(-1 200, 0) = throws.IllegalArgumentException
            block(0, -1 7) = throws.IllegalArgumentException
            at(-1 5, 0) = throws.IndexOutOfBoundsException
            at(0, -1) = throws.IndexOutOfBoundsException
            read(-1 1, 31) = throws.IndexOutOfBoundsException
            read(0, -1 200) = throws.IllegalArgumentException
            write(-1 1, 31, 1) = throws.IndexOutOfBoundsException
            write(0, -1 200, 1) = throws.IllegalArgumentException
            write(0, 31, -1 1000) = throws.IllegalArgumentException
            flush(0 41) = throws.IllegalArgumentException
            forget(-1 200) = throws.IllegalArgumentException
            share(-1 1) = throws.IndexOutOfBoundsException
            order(-1) = throws.IndexOutOfBoundsException
            ages(-1 3) = throws.IndexOutOfBoundsException
            ownedAt(-1 1, 0, 0) = throws.IndexOutOfBoundsException
            ownedAt(0, -1 3, 0) = throws.IndexOutOfBoundsException
            ownedAt(0, 0, -1) = throws.IndexOutOfBoundsException
            excess(-1 1) = throws.IndexOutOfBoundsException
            toScan(-1 1, 0) = throws.IndexOutOfBoundsException
            toScan(0, -1 200) = throws.IllegalArgumentException
            rank(-1 200) = throws.IllegalArgumentException
            between(-1 5, 0, 0) = throws.IndexOutOfBoundsException
            between(0, -1 200, 199) = throws.IllegalArgumentException
            between(0, 5, 4 200) = throws.IllegalArgumentException
            longest(-1 5) = throws.IndexOutOfBoundsException
            stale(-1) = throws.IllegalArgumentException
            wouldBe(-1 1, 0, 0) = throws.IndexOutOfBoundsException
            wouldBe(0, -1 200, 0) = throws.IllegalArgumentException
            wouldBe(0, 0, -1 7) = throws.IllegalArgumentException
            ahead(-1 1, 0, 1, 1, 0) = throws.IndexOutOfBoundsException
            ahead(0, -1 200, 1, 1, 0) = throws.IllegalArgumentException
            ahead(0, 0, 0 41, 1, 0) = throws.IllegalArgumentException
            ahead(0, 0, 1, 0 5, 0) = throws.IllegalArgumentException
            ahead(0, 0, 1, 1, -1 7) = throws.IllegalArgumentException
            bestLength(-1 1, 0, 1, 1) = throws.IndexOutOfBoundsException
            bestLength(0, -1 200, 1, 1) = throws.IllegalArgumentException
            bestLength(0, 0, 0 41, 1) = throws.IllegalArgumentException
            bestLength(0, 0, 1, 0 5) = throws.IllegalArgumentException
            show(-1 5) = throws.IndexOutOfBoundsException
            save(-1 2) = throws.IllegalArgumentException
            restore(-1 2) = throws.IllegalArgumentException
            restore(1) = throws.IllegalStateException
            errorCode() = 2
            output(0) = 51
            runTrace() = 0
            count(21) = 1

            # A full text and four clients: what is refused then changes nothing.
            addClient(1 2 3 4) = 0 1 2 3
            addClient(5) = throws.IllegalStateException
            text("<flush 1;       *40>") = 600
            appendText(0x666c7573) = throws.IllegalStateException
            runTrace() = 0
            client(0..3, 0) = 1 2 3 4

            # Of several exceptions the first in the method's list is thrown: IndexOutOfBoundsException ahead of IllegalArgumentException.
            setWeight(0, 0) = throws.IndexOutOfBoundsException
            client(0, 11) = throws.IndexOutOfBoundsException
            read(0, 200) = throws.IndexOutOfBoundsException
            write(0, 200, 1000) = throws.IndexOutOfBoundsException
            toScan(0, 200) = throws.IndexOutOfBoundsException
            between(5, 200, -1) = throws.IndexOutOfBoundsException
            wouldBe(0, 200, 7) = throws.IndexOutOfBoundsException
            ahead(0, 200, 41, 5, 7) = throws.IndexOutOfBoundsException
            bestLength(0, 200, 41, 5) = throws.IndexOutOfBoundsException
            addClient(1) = 0
            setWeight(-1 1, 10) = throws.IndexOutOfBoundsException
            client(-1 1, -1) = throws.IndexOutOfBoundsException
            read(-1 1, -1) = throws.IndexOutOfBoundsException
            write(-1 1, -1, -1) = throws.IndexOutOfBoundsException
            toScan(-1 1, -1) = throws.IndexOutOfBoundsException
            between(-1, -1, -1) = throws.IndexOutOfBoundsException
            wouldBe(-1 1, -1, -1) = throws.IndexOutOfBoundsException
            ahead(-1 1, -1, 0, 0, -1) = throws.IndexOutOfBoundsException
            bestLength(-1 1, -1, 0, 0) = throws.IndexOutOfBoundsException

            # ... IllegalArgumentException ahead of IllegalStateException.
            restore(-1 2) = throws.IllegalArgumentException
            addClient(1 1 1 1) = 0 1 2 3
            addClient(0 10) = throws.IllegalArgumentException
            addClient(9) = throws.IllegalStateException

            # Without a client there is none to ask for, and there is nothing else that throws.
            share(0) = throws.IndexOutOfBoundsException
            excess(0) = throws.IndexOutOfBoundsException
            ownedAt(0, 0, 0) = throws.IndexOutOfBoundsException
            at(0..4, 0) = -1
            victim(false true) = -1
            leaving() = -1
            oldest() = -1
            ages(0..2) = 0
            longest(0..4) = 0
            between(0..4, 0, 199) = 0
            stale(0) = 0
            differing() = 0
            hitShare() = 0.0
            flush(40) = 0
            forget(199) = false
            shape(2, 24) = 0
            trace("read 0 5;") = 0
            """;

    // ---- the promises

    private static final String PROMISES_1_TO_10 = """
            # 1: a new object is an empty cache without clients, with the settings as at first, no text and nothing saved.
            count(0..23) = 4 8 6 10 0 0 0 0 0 0 0 0 0 0 0 0 0 0 0 0 0 0 0 0
            list(0..4) =
            block(0, 0..5) = -1
            block(199, 0..5) = -1
            at(0..4, 0) = -1
            client(0, 0) = throws.IndexOutOfBoundsException
            output(0) = -1
            truncateText(1) = throws.IllegalArgumentException
            truncateText(0) = 0
            errorCode() = 0
            errorPosition() = -1
            undo() = -1
            restore(0 1) = throws.IllegalStateException

            # 2: the highest byte of the parameter comes first.
            appendText(0x666c7573) = 4
            appendText(0x6820313b) = 8
            runTrace() = 0
            errorCode() = 0
            appendText(0x20203f20) = 4
            runTrace() = -1
            errorPosition() = 2

            # 2: a byte of 128 or more, also the highest one, belongs to no token.
            appendText(0x80202020) = 4
            runTrace() = -1
            errorPosition() = 0
            appendText(0x20ff2020) = 4
            runTrace() = -1
            errorPosition() = 1
            appendText(0x2020e120) = 4
            runTrace() = -1
            errorPosition() = 2
            appendText(0x202020a0) = 4
            runTrace() = -1
            errorPosition() = 3
            appendText(0x202020bb) = 4
            runTrace() = -1
            errorPosition() = 3
            appendText(-1) = 4
            runTrace() = -1
            errorPosition() = 0
            appendText(0) = 4
            runTrace() = -1
            errorPosition() = 0

            # 2: the text is at most 600 bytes long: 596 and four are, 597 and four are not.
            text("< *596>") = 596
            appendText(0x20202020) = 600
            truncateText(597) = 597
            appendText(0x20202020) = throws.IllegalStateException
            truncateText(596) = 596
            appendText(0x2020203f) = 600
            runTrace() = -1
            errorPosition() = 599
            appendText(0x20202020) = 4

            # 3: the new length is 0 to the present length.
            truncateText(1 -1) = throws.IllegalArgumentException
            truncateText(0) = 0
            text("flush 12") = 8
            truncateText(9 601 -1 2147483647 -2147483648) = throws.IllegalArgumentException
            truncateText(8 7) = 8 7
            truncateText(8) = throws.IllegalArgumentException
            appendText(0x3b202020) = 11
            runTrace() = 0
            errorCode() = 0

            # 3: a text that is cut to 0 bytes is empty.
            text("flush 41;") = 9
            truncateText(0) = 0
            truncateText(1) = throws.IllegalArgumentException
            runTrace() = 0
            errorCode() = 0

            # 3: what was cut off is gone.
            text("flush 1;flush 41;") = 17
            truncateText(8) = 8
            appendText(0x20202020) = 12
            runTrace() = 0
            errorCode() = 0

            # 3: ... also of a word, and of a number.
            text("flushes") = 7
            truncateText(5) = 5
            runTrace() = -1
            errorCode() = 1
            errorPosition() = 5
            text("flush 400") = 9
            truncateText(8) = 8
            runTrace() = -1
            errorCode() = 1
            errorPosition() = 8
            text("flush 1; ;") = 10
            truncateText(8) = 8
            runTrace() = 0

            # 4: the commands are done one after the other, until the CLIENT of one is not there.
            addClient(1) = 0
            trace("read 0 30;write 0 20 1;read 1 31;flush 1;read 0 32;") = 2
            count(5 12 21) = 2 1 0
            block(32, 0) = -1
            trace("write 3 20 1;read 0 32;") = 0
            trace("flush 1;read 2 1 to 9;flush 1;") = 0
            count(5 12 21) = 2 0 1
            addClient(1 1 1) = 1 2 3
            trace("read 3 31;write 3 1 1;") = 2

            # 4: a trace of no command, and one of flush alone, does no access.
            trace("") = 0
            trace("flush 40;") = 0
            count(5 23) = 0 2

            # 4: a write of a trace counts as a write, a read as a read.
            addClient(1) = 0
            trace("write 0 10 1;read 0 20;write 0 30 1;") = 3
            client(0, 5 6) = 1 2

            # 4: LIMIT holds at the end of each write of a trace.
            addClient(1) = 0
            set(1, 1) = 8
            trace("write 0 50 1;write 0 40 2;write 0 30 3;") = 3
            count(12 13 21) = 1 51 2
            order(0) = 30

            # 4: the text buffer is empty afterwards.
            text("flush 1;") = 8
            runTrace() = 0
            truncateText(1) = throws.IllegalArgumentException
            appendText(0x20202020) = 4

            # 4: ... also if there is an error.
            text("flush 41;") = 9
            runTrace() = -1
            truncateText(1) = throws.IllegalArgumentException
            appendText(0x20202020) = 4
            runTrace() = 0

            # 4: forty commands of 200 accesses each.
            addClient(1) = 0
            trace("<read0 0to199;*40>") = 8000
            count(5) = 8000
            client(0, 3 4 5) = 200 199 8000
            undo() = 1
            count(5) = 0

            # 5, 6: 0 and NONE, if there was no call of runTrace().
            addClient(1) = 0
            text("?") = 1
            errorCode() = 0
            errorPosition() = -1

            # 5, 6: the error of the latest runTrace() stays until the next one, and goes with one that has none.
            trace("flush 41;") = -1
            errorCode() = 2
            errorPosition() = 6
            addClient(1) = 0
            text("flush") = 5
            undo() = 0
            errorCode() = 2
            errorPosition() = 6
            runTrace() = -1
            errorCode() = 1
            errorPosition() = 5
            trace("") = 0
            errorCode() = 0
            errorPosition() = -1
            trace("?") = -1
            trace("read 0 1;") = 0
            errorCode() = 0
            errorPosition() = -1

            # 7: the number of a client is the number of clients ahead of it; the fifth is refused.
            addClient(9 1 5) = 0 1 2
            undo() = 2
            addClient(2 3) = 2 3
            client(0..3, 0) = 9 1 2 3
            addClient(1) = throws.IllegalStateException
            undo() = 3
            addClient(4) = 3
            client(3, 0) = 4

            # 7: a client that is added has neither LAST nor RUN nor counts, whoever had its number before.
            addClient(1) = 0
            trace("read 0 10 to 15;write 0 15 1;read 0 10 to 15;") = 13
            undo() = 1
            undo() = 0
            addClient(2) = 0
            client(0, 0..10) = 2 0 0 0 -1 0 0 0 0 0 0

            # 7: ... also if it went by restore().
            save(0) = void
            addClient(3) = 0
            shape(2, 2) = 0
            trace("read 0 10 to 15;write 0 15 1;read 0 15;read 0 25;read 0 35;read 0 45;read 0 25;") = 12
            client(0, 3..8) = 1 25 11 1 1 2
            restore(0) = void
            addClient(2) = 0
            client(0, 0..10) = 2 0 0 0 -1 0 0 0 0 0 0

            # 8: the previous weight is the answer, also if it is the same.
            addClient(9) = 0
            setWeight(0, 9 1 1 9) = 9 9 1 1
            client(0, 0) = 9

            # 9: a setting changes, and nothing is written back by this at once.
            addClient(1) = 0
            write(0, 10, 1) = 0
            write(0, 30, 1) = 0
            set(1, 0) = 8
            count(12 21) = 2 0
            flush(1) = 1
            count(12 21) = 1 1
            write(0, 20, 1) = 2

            # 9: the setting's number is 0 or 1.
            set(-1 2 2147483647 -2147483648, 5) = throws.IllegalArgumentException
            count(0 1) = 4 8

            # 9: what is good for LIMIT is not for LENGTH.
            set(0, 0 1 40) = throws.IllegalArgumentException
            set(1, 0 1 40) = 8 0 1
            count(0 1) = 4 40

            # 10: all dirty units are written back, in order: HEAD is behind the last one of this order.
            addClient(1) = 0
            write(0, 99, 9) = 0
            flush(1) = 1
            write(0, 150, 1) = 0
            write(0, 20, 2) = 0
            write(0, 100, 3) = 0
            shape(6, 10) = 4
            count(12 13 21) = 0 21 4
            block(150 20 100, 6) = 1 2 3

            # 10: all dirty units are written back, whatever LIMIT is; behind the block 199 HEAD is 0.
            addClient(1) = 0
            set(1, 40) = 8
            shape(2, 2) = 0
            write(0, 10, 1) = 0
            write(0, 20, 1) = 0
            write(0, 30, 1) = 0
            write(0, 199, 1) = 0
            shape(2, 2) = 4
            count(12 13 21) = 0 0 4

            # 10: then all units leave, there are no ghosts, and TARGET is 0.
            addClient(1) = 0
            shape(2, 4) = 0
            read(0, 10 10 20 30 20 40) = 50 50 100 150 100 200
            count(4 7 8 9 10 11) = 1 2 0 2 0 2
            shape(2, 4) = 4
            count(4 7 8 9 10 11) = 0
            block(10 20 30 40, 0) = -1
            block(10 20 30 40, 5) = -1
            count(20) = 0

            # 10: ... none of the block 0 either, and no ghosts of RECENT.
            addClient(1) = 0
            shape(2, 4) = 0
            read(0, 0 20 30) = 0 100 150
            block(0, 0..6) = 2 0 0 0 -1 3 0
            shape(2, 4) = 3
            block(0, 0..6) = -1 -1 -1 -1 -1 -1 0
            block(20, 0..6) = -1 -1 -1 -1 -1 -1 100
            list(3) =
            count(10) = 0
            read(0, 0) = 0
            count(17) = 0
            list(0) = 0

            # 10: the number of units that left: none of an empty cache, those of all three lists of a full one.
            addClient(1) = 0
            shape(2, 2) = 0
            shape(3, 2) = 0
            read(0, 10 10 20 30 40 50 60) = 50 50 100 150 200 250 300
            count(7..9) = 2 1 2
            shape(2, 2) = 5
            shape(2, 2) = 0

            # 10: clients keep LAST and RUN, and counts stay.
            addClient(1) = 0
            read(0, 10 11) = 50 55
            shape(2, 2) = 2
            client(0, 3 4 5 9) = 2 11 2 2
            count(5 16) = 2
            """;

    private static final String PROMISES_11_TO_18 = """
            # 11: what is 0 to 23.
            count(-1 24 2147483647 -2147483648) = throws.IllegalArgumentException
            count(0..23) = 4 8 6 10 0 0 0 0 0 0 0 0 0 0 0 0 0 0 0 0 0 0 0 0

            # 11: each number is what it is called.
            addClient(1 1) = 0 1
            shape(3, 4) = 0
            set(0, 2) = 4
            set(1, 3) = 8
            write(0, 10, 1) = 0
            write(0, 30, 2) = 0
            read(0, 30) = 2
            read(1, 50 70 90) = 250 350 450
            list(0) = 90 70
            list(1) = 30
            list(2) = 50 10
            write(1, 50, 4) = 0
            read(1, 51 52 50) = 255 260 4
            write(1, 110, 5) = 1
            count(0..13) = 2 3 3 4 1 11 2 2 1 4 2 1 3 11
            count(14..23) = 2 1 8 1 0 4 1 1 2 8

            # 11: a lower hit, forget() and shape() are no unit that left LOWER to make room.
            addClient(1) = 0
            shape(2, 2) = 0
            read(0, 10 20 30 40 10) = 50 100 150 200 50
            forget(20) = true
            shape(2, 2) = 3
            count(20) = 0

            # 12: what is 0 to 10.
            addClient(1) = 0
            client(0, -1 11 2147483647 -2147483648) = throws.IllegalArgumentException
            client(0, 0..10) = 1 0 0 0 -1 0 0 0 0 0 0

            # 12: each client has its own reads, writes, upper hits, lower hits and misses.
            addClient(1 1) = 0 1
            shape(2, 4) = 0
            read(0, 10 10) = 50
            read(1, 10 20 30) = 50 100 150
            write(1, 20, 1) = 0
            write(1, 20, 2) = 0
            write(0, 30, 1) = 0
            client(0, 5..9) = 2 1 2 0 1
            client(1, 5..9) = 3 2 2 1 2

            # 12: LAST can be the block 0.
            addClient(1) = 0
            read(0, 0) = 0
            client(0, 4) = 0

            # 12: units count for their owner of now, also those in LOWER.
            addClient(1 1) = 0 1
            shape(2, 4) = 0
            read(0, 10 20 30 40) = 50 100 150 200
            client(0, 1 2) = 2 2
            read(1, 40) = 200
            client(0, 1 2) = 1 2
            client(1, 1 2) = 1 0
            forget(10) = true
            client(0, 1 2) = 1 1

            # 13: block is 0 to 199, what is 0 to 6.
            block(-1 200 2147483647 -2147483648, 0) = throws.IllegalArgumentException
            block(0, -1 7 2147483647 -2147483648) = throws.IllegalArgumentException
            block(199, 0..6) = -1 -1 -1 -1 -1 -1 995

            # 13: NONE without a unit, and without a dirty one.
            addClient(1) = 0
            shape(2, 2) = 0
            read(0, 0) = 0
            block(0, 0..6) = 0 0 0 0 -1 -1 0
            write(0, 0, 0) = 0
            block(0, 0..6) = 1 0 0 0 2 -1 0
            forget(0) = true
            block(0, 0..6) = -1 -1 -1 -1 -1 -1 0

            # 13: a block that is a ghost without a unit.
            addClient(1) = 0
            shape(3, 2) = 0
            read(0, 10 20 30 40 50 60) = 50 100 150 200 250 300
            block(10, 0..6) = -1 -1 -1 -1 -1 3 50
            block(20, 0..6) = 2 1 100 0 -1 3 100

            # 14: a list is 0 to 4, a place is not negative; NONE behind the last place.
            addClient(1) = 0
            shape(2, 2) = 0
            read(0, 10 20 30) = 50 100 150
            at(-1 5 2147483647 -2147483648, 0) = throws.IndexOutOfBoundsException
            at(0, -1 -2147483648) = throws.IndexOutOfBoundsException
            at(0, 0 1 2 24 2147483647) = 30 20 -1 -1 -1
            at(1, 0) = -1
            at(2, 0 1) = 10 -1
            at(3, 0 1) = 10 -1
            at(4, 0) = -1

            # 14: the last place of the longest lists.
            addClient(1) = 0
            shape(2, 24) = 0
            trace("read 0 10;read 0 8;read 0 6;read 0 4;read 0 2;") = 5
            trace("read 0 20;read 0 18;read 0 16;read 0 14;read 0 12;read 0 30;read 0 28;read 0 26;") = 8
            trace("read 0 40;read 0 38;read 0 36;read 0 34;read 0 32;read 0 50;read 0 48;read 0 46;") = 8
            trace("read 0 60;read 0 58;read 0 56;read 0 54;read 0 52;read 0 70;read 0 68;read 0 66;") = 8
            at(2, 0 22 23 24) = 70 2 4 -1
            count(9 20) = 24 3
            at(3, 0 1 2) = 70 52 -1

            # 15: a client is there, a block is 0 to 199.
            read(0, 5) = throws.IndexOutOfBoundsException
            addClient(1) = 0
            read(-1 1 2147483647 -2147483648, 5) = throws.IndexOutOfBoundsException
            read(0, -1 200 2147483647 -2147483648) = throws.IllegalArgumentException
            read(0, 0 199) = 0 995
            count(5 23) = 2 3

            # 15: it returns the value of the unit, also where the store has another one.
            addClient(1) = 0
            shape(2, 4) = 0
            write(0, 10, 7) = 0
            read(0, 20 30) = 100 150
            block(10, 0 6) = 2 50
            read(0, 10 10) = 7

            # 16: value is 0 to 999.
            write(0, 5, 1) = throws.IndexOutOfBoundsException
            addClient(1) = 0
            write(-1 1 2147483647 -2147483648, 5, 1) = throws.IndexOutOfBoundsException
            write(0, -1 200 2147483647 -2147483648, 1) = throws.IllegalArgumentException
            write(0, 5, -1 1000 2147483647 -2147483648) = throws.IllegalArgumentException
            write(0, 0 199, 0) = 0
            write(0, 0 199, 999) = 0
            block(0 199, 2) = 999

            # 16: it returns the units that were written back, also those that left LOWER to make room.
            addClient(1) = 0
            shape(2, 2) = 0
            write(0, 60, 1) = 0
            write(0, 50, 1) = 0
            write(0, 40, 1) = 0
            write(0, 30, 1) = 0
            list(2) = 50 60
            set(1, 2) = 8
            write(0, 70, 1) = 3
            block(60, 0 6) = -1 1
            count(12 13 20 21) = 2 31 1 3
            order(0 1) = 40 50

            # 16: a clean unit that leaves LOWER is not written back.
            addClient(1) = 0
            shape(2, 2) = 0
            read(0, 10 20 30 40) = 50 100 150 200
            write(0, 50, 1) = 0
            count(20 21) = 1 0

            # 16: a write that is a scan makes a dirty unit in LOWER.
            addClient(1) = 0
            shape(2, 2) = 0
            set(0, 2) = 4
            write(0, 10, 1) = 0
            write(0, 11, 2) = 0
            write(0, 12, 3) = 0
            list(2) = 12 11
            write(0, 13, 4) = 1
            list(2) = 13 12
            block(11, 0 6) = -1 2
            block(13, 2 4) = 4 4

            # 17: many is 1 to 40.
            flush(0 41 -1 2147483647 -2147483648) = throws.IllegalArgumentException
            flush(1 40) = 0

            # 17: at most so many are written back, and no more than there are.
            addClient(1) = 0
            write(0, 30, 1) = 0
            write(0, 20, 1) = 0
            write(0, 10, 1) = 0
            flush(2) = 2
            block(10 20 30, 4) = -1 -1 1
            count(12 13) = 1 21
            flush(2) = 1
            flush(2) = 0
            count(12 13) = 0 31

            # 18: block is 0 to 199.
            forget(-1 200 2147483647 -2147483648) = throws.IllegalArgumentException
            forget(0 199) = false
            addClient(1) = 0
            read(0, 0 199) = 0 995
            forget(0 199) = true
            list(0) =

            # 18: the unit leaves without being written back, out of each list.
            addClient(1) = 0
            shape(3, 4) = 0
            write(0, 10, 1) = 0
            write(0, 30, 1) = 0
            write(0, 30, 2) = 0
            write(0, 50, 1) = 0
            write(0, 70, 1) = 0
            list(0) = 70 50
            list(1) = 30
            list(2) = 10
            forget(50) = true
            list(0) = 70
            forget(30) = true
            list(1) =
            forget(10) = true
            list(2) =
            block(10 30 50, 6) = 50 150 250
            count(12 13 20 21) = 1 0 0 0

            # 18: it is no ghost any more: with a unit, and without one.
            addClient(1) = 0
            shape(3, 2) = 0
            read(0, 10 20 30 40 50 60) = 50 100 150 200 250 300
            list(3) = 30 20 10
            forget(20) = true
            list(2) = 30
            list(3) = 30 10
            forget(10) = false
            list(3) = 30
            forget(10) = false

            # 18: ... no ghost of FREQUENT either.
            addClient(1) = 0
            shape(2, 2) = 0
            read(0, 10 10 20 20 30) = 50 50 100 100 150
            list(4) = 10
            forget(10) = true
            list(4) =
            read(0, 10) = 50
            count(18) = 0
            """;

    private static final String PROMISES_19_TO_33 = """
            # 19: UP times its weight, divided by the sum of all weights, as doubles.
            addClient(1) = 0
            share(0) = 6.0
            addClient(2) = 1
            share(0 1) = 2.0 4.0
            shape(2, 2) = 0
            share(0 1) = 0.6666666666666666 1.3333333333333333
            shape(16, 2) = 0
            addClient(9 9) = 2 3
            share(0) = 0.7619047619047619
            setWeight(0, 9) = 1
            setWeight(1, 9) = 2
            share(0..3) = 4.0
            share(-1 4 2147483647 -2147483648) = throws.IndexOutOfBoundsException

            # 20: 0 without an access, otherwise the upper hits divided by all accesses, as floats.
            hitShare() = 0.0
            addClient(1) = 0
            read(0, 10) = 50
            hitShare() = 0.0
            read(0, 10) = 50
            hitShare() = 0.5
            read(0, 20) = 100
            hitShare() = 0.33333334
            undo() = 3
            undo() = 2
            undo() = 1
            hitShare() = 0.0

            # 20: a lower hit is no upper hit; a scan can be one.
            addClient(1) = 0
            shape(2, 4) = 0
            set(0, 2) = 4
            read(0, 11 10 11) = 55 50 55
            hitShare() = 0.33333334
            read(0, 12 12) = 60
            count(14 15 16) = 1 1 3
            hitShare() = 0.2

            # 21: NONE if there are not so many; index is not negative.
            order(0 2147483647) = -1
            order(-1 -2147483648) = throws.IndexOutOfBoundsException
            addClient(1) = 0
            write(0, 10, 1) = 0
            read(0, 20) = 100
            order(0 1 39 40 200 2147483647) = 10 -1 -1 -1 -1 -1

            # 21, 29: the place in the order, with 40 dirty units.
            addClient(1) = 0
            set(1, 40) = 8
            shape(16, 24) = 0
            write(0, 40, 1) = 0
            flush(1) = 1
            trace("write 0 198 1;write 0 196 1;write 0 194 1;write 0 192 1;write 0 190 1;") = 5
            trace("write 0 0 1;write 0 2 1;write 0 4 1;write 0 6 1;write 0 8 1;write 0 10 1;write 0 12 1;") = 7
            trace("write 0 14 1;write 0 16 1;write 0 18 1;write 0 20 1;write 0 22 1;write 0 24 1;") = 6
            trace("write 0 26 1;write 0 28 1;write 0 30 1;write 0 32 1;write 0 34 1;write 0 36 1;") = 6
            trace("write 0 38 1;write 0 40 1;write 0 42 1;write 0 44 1;write 0 46 1;write 0 48 1;") = 6
            trace("write 0 50 1;write 0 52 1;write 0 54 1;write 0 56 1;write 0 58 1;write 0 60 1;") = 6
            trace("write 0 62 1;write 0 64 1;write 0 66 1;write 0 68 1;") = 4
            count(12 13) = 40 41
            order(0 13 14 18 19 39 40) = 42 68 190 198 0 40 -1
            rank(42 68 190 198 0 40 41) = 0 13 14 18 19 39 -1

            # 22: NONE if the upper layer has less than UP units.
            victim(false true) = -1
            addClient(1) = 0
            shape(2, 2) = 0
            read(0, 10) = 50
            victim(false true) = -1
            read(0, 20) = 100
            victim(false true) = 10
            forget(20) = true
            victim(false true) = -1

            # 22: a ghost of FREQUENT matters where RECENT has just TARGET units; TARGET is that of now.
            addClient(1) = 0
            shape(2, 24) = 0
            read(0, 10 10 20 30 20) = 50 50 100 150 100
            count(4 7 8) = 1
            victim(false true) = 20 30

            # 23: NONE if LOWER has less than LOW units.
            leaving() = -1
            addClient(1) = 0
            shape(2, 2) = 0
            read(0, 10 20 30) = 50 100 150
            leaving() = -1
            read(0, 40) = 200
            leaving() = 10
            forget(20) = true
            leaving() = -1

            # 24: NONE without a dirty unit.
            oldest() = -1
            addClient(1) = 0
            read(0, 10) = 50
            oldest() = -1
            write(0, 0, 0) = 0
            oldest() = 0
            flush(1) = 1
            oldest() = -1

            # 24: the earliest time counts, not the place, the number or the latest write.
            addClient(1) = 0
            shape(2, 4) = 0
            write(0, 30, 1) = 0
            write(0, 10, 1) = 0
            write(0, 30, 2) = 0
            oldest() = 30
            read(0, 50 70) = 250 350
            oldest() = 30
            flush(1) = 1
            write(0, 10, 2) = 0
            oldest() = 30
            flush(1) = 1
            oldest() = 10
            flush(40) = 1
            oldest() = -1

            # 25: a list is 0 to 2.
            ages(-1 3 4 2147483647 -2147483648) = throws.IndexOutOfBoundsException
            ages(0..2) = 0

            # 25: the dirty units of each list for themselves.
            addClient(1) = 0
            shape(3, 2) = 0
            write(0, 10, 1) = 0
            ages(0) = 0
            read(0, 30) = 150
            ages(0) = 1
            write(0, 50, 1) = 0
            ages(0..2) = 2 0 0
            read(0, 70) = 350
            ages(0..2) = 1 0 3
            read(0, 50) = 1
            ages(0..2) = 0 2 4
            flush(40) = 2
            ages(0..2) = 0

            # 21, 24, 25, 29, 31, 32, 33: the block 0 counts as any other.
            addClient(1) = 0
            write(0, 0, 7) = 0
            read(0, 1) = 5
            order(0) = 0
            oldest() = 0
            ages(0) = 1
            rank(0) = 0
            longest(0) = 2
            differing() = 1
            stale(1) = 1
            count(12) = 1

            # 21, 24, 25, 29, 31, 32, 33: the block 199 counts as any other.
            addClient(1) = 0
            write(0, 199, 7) = 0
            read(0, 198) = 990
            order(0) = 199
            oldest() = 199
            ages(0) = 1
            rank(199) = 0
            longest(0) = 2
            differing() = 1
            stale(1) = 1
            count(12) = 1

            # 26: a list is 0 to 2, index is not negative; NONE if there are not so many.
            ownedAt(0, 0, 0) = throws.IndexOutOfBoundsException
            addClient(1 1) = 0 1
            read(0, 10) = 50
            read(1, 20) = 100
            read(0, 30) = 150
            read(1, 40) = 200
            list(0) = 40 30 20 10
            ownedAt(0, 0, 0 1 2 2147483647) = 30 10 -1 -1
            ownedAt(1, 0, 0 1 2 2147483647) = 40 20 -1 -1
            ownedAt(0, 1 2, 0) = -1
            ownedAt(0, -1 3 4 2147483647 -2147483648, 0) = throws.IndexOutOfBoundsException
            ownedAt(0, 0, -1 -2147483648) = throws.IndexOutOfBoundsException
            ownedAt(-1 2 2147483647 -2147483648, 0, 0) = throws.IndexOutOfBoundsException

            # 26: units in FREQUENT and in LOWER.
            addClient(1 1) = 0 1
            set(0, 2) = 4
            read(0, 10 11 12) = 50 55 60
            read(1, 12 10) = 60 50
            list(0) = 12
            list(1) = 10
            list(2) = 11
            ownedAt(0, 0..2, 0) = -1 -1 11
            ownedAt(1, 0..2, 0) = 12 10 -1

            # 27: less than 0 below its share, 0 with just its share, more than 0 above it; as floats.
            excess(0) = throws.IndexOutOfBoundsException
            addClient(1) = 0
            excess(0) = -6.0
            addClient(2) = 1
            shape(2, 4) = 0
            excess(0 1) = -0.6666667 -1.3333334
            read(0, 10) = 50
            excess(0 1) = 0.33333334 -1.3333334
            read(0, 20) = 100
            excess(0) = 1.3333334
            setWeight(1, 1) = 2
            excess(0 1) = 1.0 -1.0
            read(1, 20) = 100
            excess(0 1) = 0.0
            excess(-1 2 2147483647 -2147483648) = throws.IndexOutOfBoundsException

            # 28: NONE if the scan would be behind the block 199; a scan of the block 199 is not.
            addClient(1) = 0
            toScan(0, 0 195 196 197 198 199) = 4 4 4 -1 -1 -1
            set(0, 2) = 4
            toScan(0, 0 198 199) = 2 2 -1
            set(0, 20) = 2
            toScan(0, 0 180 181 199) = 20 20 -1 -1
            toScan(0, -1 200 2147483647 -2147483648) = throws.IllegalArgumentException
            toScan(-1 1, 0) = throws.IndexOutOfBoundsException

            # 28: RUN counts if the block is the one behind LAST, and only then.
            addClient(1) = 0
            read(0, 5) = 25
            toScan(0, 4 5 6 7) = 4 4 3 4
            read(0, 6 7) = 30 35
            toScan(0, 7 8 9) = 4 1 4
            read(0, 8 9) = 40 45
            toScan(0, 10) = 1
            set(0, 20) = 4
            toScan(0, 10 11) = 15 20
            set(0, 5) = 20
            toScan(0, 10) = 1

            # 28: at the block 199, and behind it.
            addClient(1) = 0
            read(0, 197 198) = 985 990
            toScan(0, 199) = -1
            set(0, 3) = 4
            toScan(0, 199) = 1
            read(0, 199) = 995
            toScan(0, 0 199) = 3 -1

            # 29: NONE if it has no dirty unit.
            rank(0 199) = -1
            rank(-1 200 2147483647 -2147483648) = throws.IllegalArgumentException
            addClient(1) = 0
            read(0, 10) = 50
            write(0, 20, 1) = 0
            rank(10 20 30) = -1 0 -1
            flush(1) = 1
            rank(20) = -1
            write(0, 20 10, 1) = 0
            rank(20 10) = 1 0
            write(0, 21, 1) = 0
            rank(21 10 20) = 0 1 2

            # 30: both blocks are included.
            addClient(1) = 0
            read(0, 199 0 50) = 995 0 250
            between(0, 0, 0 49 50 198 199) = 1 1 2 2 3
            between(0, 0 1 50 51 199, 199) = 3 2 2 1 1
            between(0, 1, 49) = 0
            between(0, 51, 198) = 0
            between(0, 199, 199) = 1

            # 30: from is 0 to 199, to is from to 199, a list is 0 to 4.
            between(0..4, 0, 199) = 0
            between(-1 5 2147483647 -2147483648, 0, 199) = throws.IndexOutOfBoundsException
            between(0, -1 200 2147483647 -2147483648, 199) = throws.IllegalArgumentException
            between(0, 0, -1 200 2147483647 -2147483648) = throws.IllegalArgumentException
            between(0, 50, 49) = throws.IllegalArgumentException
            between(0, 199, 198) = throws.IllegalArgumentException
            between(0, 50, 50) = 0

            # 30: the ghosts' lists.
            addClient(1) = 0
            shape(3, 2) = 0
            read(0, 10 20 30 40 50 60) = 50 100 150 200 250 300
            between(3, 10, 30) = 3
            between(3, 11, 29) = 1
            between(2, 10, 30) = 2
            between(4, 0, 199) = 0

            # 31: 0 for an empty list, 1 for blocks that stand alone; a list is 0 to 4.
            longest(0..4) = 0
            longest(-1 5 2147483647 -2147483648) = throws.IndexOutOfBoundsException
            addClient(1) = 0
            read(0, 10) = 50
            longest(0) = 1
            read(0, 12) = 60
            longest(0) = 1

            # 31: in whatever order.
            addClient(1) = 0
            read(0, 7 5 6) = 35 25 30
            list(0) = 6 5 7
            longest(0) = 3
            forget(6) = true
            longest(0) = 1

            # 31: up to the block 199, from the block 0 on, and not round the end.
            addClient(1) = 0
            read(0, 199 198 1 0) = 995 990 5 0
            longest(0) = 2
            forget(198 1) = true
            longest(0) = 1

            # 31: blocks that are all in the list, not in another one.
            addClient(1) = 0
            shape(2, 4) = 0
            read(0, 4 5 6 7) = 20 25 30 35
            list(0) = 6 5
            list(2) = 7 4
            longest(0 2 3) = 2 1 1
            read(0, 8) = 40
            longest(0 2) = 2

            # 32: a dirty unit with the value of the store does not differ, nor does a clean one.
            addClient(1) = 0
            differing() = 0
            write(0, 10, 50) = 0
            count(12) = 1
            differing() = 0
            write(0, 10, 51) = 0
            differing() = 1
            flush(1) = 1
            differing() = 0
            write(0, 10, 50) = 0
            differing() = 1
            forget(10) = true
            differing() = 0

            # 32: the units of all three lists.
            addClient(1) = 0
            shape(2, 4) = 0
            write(0, 10, 1) = 0
            write(0, 30, 1) = 0
            write(0, 30, 2) = 0
            write(0, 50, 1) = 0
            count(7..9) = 1
            differing() = 3

            # 33: age is 0 or more, whatever the time is.
            stale(-1 -2147483648) = throws.IllegalArgumentException
            stale(0 1 2147483647) = 0
            addClient(1) = 0
            write(0, 10, 1) = 0
            read(0, 20) = 100
            write(0, 30, 1) = 0
            stale(0 1 2 3 4 2147483647) = 2 1 1 0 0 0
            write(0, 10, 2) = 0
            stale(3) = 1
            flush(40) = 2
            stale(0) = 0
            """;

    private static final String PREDICTIONS = """
            # 34: a client is there, block is 0 to 199, what is 0 to 6.
            wouldBe(0, 0, 0) = throws.IndexOutOfBoundsException
            addClient(1) = 0
            wouldBe(-1 1 2147483647 -2147483648, 0, 0) = throws.IndexOutOfBoundsException
            wouldBe(0, -1 200 2147483647 -2147483648, 0) = throws.IllegalArgumentException
            wouldBe(0, 0, -1 7 2147483647 -2147483648) = throws.IllegalArgumentException
            wouldBe(0, 0, 0..6) = 2 0 0 -1 -1 0 0
            wouldBe(0, 199, 0..6) = 2 0 0 -1 -1 0 0

            # 34: a full upper layer and a full LOWER of dirty units.
            addClient(1) = 0
            shape(2, 2) = 0
            set(0, 2) = 4
            write(0, 10, 1) = 0
            write(0, 20, 2) = 0
            write(0, 30, 3) = 0
            write(0, 40, 4) = 0
            list(2) = 20 10
            wouldBe(0, 50, 0..6) = 2 0 0 30 10 1 0
            wouldBe(0, 41, 0..6) = 2 1 2 -1 10 1 0
            wouldBe(0, 20, 0..6) = 1 0 1 30 -1 0 1
            wouldBe(0, 40, 0..6) = 0 0 1 -1 -1 0 0
            read(0, 39) = 195
            list(0) = 39 40
            list(2) = 30 20
            wouldBe(0, 40, 0..6) = 0 1 0 -1 -1 0 0
            wouldBe(0, 30, 0..6) = 1 0 1 40 -1 0 1

            # 34: a full LOWER with a clean unit.
            addClient(1) = 0
            shape(2, 2) = 0
            write(0, 10, 1) = 0
            read(0, 20 30 40) = 100 150 200
            list(2) = 20 10
            wouldBe(0, 50, 0..6) = 2 0 0 30 20 0 0

            # 34: a read writes nothing back for LIMIT.
            addClient(1) = 0
            write(0, 10, 1) = 0
            set(1, 0) = 8
            wouldBe(0, 10 20, 5) = 0

            # 34: TARGET at 0 and at UP.
            addClient(1) = 0
            shape(2, 24) = 0
            read(0, 10 10 20 20 30) = 50 50 100 100 150
            wouldBe(0, 10, 0..6) = 1 0 1 30 -1 0 0
            shape(2, 24) = 3
            read(0, 10 10 20 30 20 40 50 30) = 50 50 100 150 100 200 250 150
            count(4) = 2
            list(3) = 40
            wouldBe(0, 40, 0..6) = 1 0 1 30 -1 0 2

            # 35: many is 1 to 40, from + many is at most 200, rounds is 1 to 4, what is 0 to 6.
            ahead(0, 0, 1, 1, 0) = throws.IndexOutOfBoundsException
            addClient(1) = 0
            ahead(-1 1 2147483647 -2147483648, 0, 1, 1, 0) = throws.IndexOutOfBoundsException
            ahead(0, -1 200 2147483647 -2147483648, 1, 1, 2) = throws.IllegalArgumentException
            ahead(0, 0, 0 41 -1 2147483647 -2147483648, 1, 2) = throws.IllegalArgumentException
            ahead(0, 161 162 199, 40, 1, 2) = throws.IllegalArgumentException
            ahead(0, 199, 2 2147483647, 1, 2) = throws.IllegalArgumentException
            ahead(0, 1, 2147483647, 1, 2) = throws.IllegalArgumentException
            ahead(0, 0, 1, 0 5 -1 2147483647 -2147483648, 2) = throws.IllegalArgumentException
            ahead(0, 0, 1, 1, -1 7 2147483647 -2147483648) = throws.IllegalArgumentException
            ahead(0, 0 160, 40, 1, 2) = 40
            ahead(0, 199, 1, 1, 2) = 1
            ahead(0, 161, 39, 1, 2) = 39
            ahead(0, 0, 1 40, 1, 2) = 1 40
            ahead(0, 0, 1, 1..4, 0) = 0 1 2 3

            # 35: forty blocks, four times: the RUN of a round begins anew.
            addClient(1) = 0
            ahead(0, 160, 40, 4, 0..6) = 9 0 151 0 0 0 148
            ahead(0, 160, 40, 1, 0..6) = 0 0 40 0 0 0 37

            # 35: one block again and again is no run.
            addClient(1) = 0
            set(0, 2) = 4
            ahead(0, 7, 1, 4, 0..6) = 3 0 1 0 0 0 0
            ahead(0, 7, 2, 4, 0..6) = 3 3 2 0 0 0 4

            # 35: the numbers of these accesses alone, though there were others.
            addClient(1) = 0
            shape(2, 2) = 0
            write(0, 10, 1) = 0
            write(0, 20, 1) = 0
            write(0, 30, 1) = 0
            write(0, 40, 1) = 0
            write(0, 50, 1) = 1
            ahead(0, 60, 1, 1, 0..6) = 0 0 1 1 1 0 0
            ahead(0, 50, 1, 1, 0..6) = 1 0 0 0 0 0 0
            ahead(0, 30, 1, 1, 0..6) = 0 1 0 1 0 1 0
            ahead(0, 51, 3, 1, 6) = 1

            # 34, 35: ... though there were hits and scans.
            addClient(1) = 0
            shape(2, 2) = 0
            set(0, 2) = 4
            read(0, 10 11 11 11 12) = 50 55 55 55 60
            count(14 15 16 19 20 22) = 1 1 3 0 0 2
            list(0) = 10
            list(1) = 11
            list(2) = 12
            wouldBe(0, 13, 0..6) = 2 1 2 -1 -1 0 0
            ahead(0, 13, 2, 1, 0..6) = 0 0 2 0 0 0 2
            ahead(0, 10, 1, 1, 0..6) = 1 0 0 0 0 0 0
            ahead(0, 12, 1, 1, 0..6) = 0 1 0 1 0 0 0

            # 36: the ranges of ahead().
            bestLength(0, 0, 1, 1) = throws.IndexOutOfBoundsException
            addClient(1) = 0
            bestLength(-1 1 2147483647 -2147483648, 0, 1, 1) = throws.IndexOutOfBoundsException
            bestLength(0, -1 200 2147483647 -2147483648, 1, 1) = throws.IllegalArgumentException
            bestLength(0, 0, 0 41 -1 2147483647 -2147483648, 1) = throws.IllegalArgumentException
            bestLength(0, 161 162 199, 40, 1) = throws.IllegalArgumentException
            bestLength(0, 1, 2147483647, 1) = throws.IllegalArgumentException
            bestLength(0, 0, 1, 0 5 -1 2147483647 -2147483648) = throws.IllegalArgumentException
            bestLength(0, 0 160, 40, 1) = 2
            bestLength(0, 199, 1, 1..4) = 2

            # 36: of several the least, whatever LENGTH is now.
            addClient(1) = 0
            bestLength(0, 50, 1, 1) = 2
            bestLength(0, 0, 11 12 16, 2) = 2 3 7
            set(0, 20) = 4
            bestLength(0, 50, 1, 1) = 2
            bestLength(0, 0, 11 12 16, 2) = 2 3 7

            # 36: the greatest LENGTH is compared as well.
            addClient(1) = 0
            shape(16, 2) = 0
            trace("read 0 100 to 116;") = 17
            bestLength(0, 117, 4 3, 2) = 20 19
            """;

    private static final String PROMISES_37_TO_41 = """
            # 37: nothing is written for an empty list, and the output is replaced all the same.
            show(0..4) = 0
            output(0) = -1
            addClient(1) = 0
            read(0, 100) = 500
            show(0) = 3
            output(0..3) = 49 48 48 -1
            show(4) = 0
            output(0 1 2) = -1

            # 37: a list is 0 to 4; a list that is not there leaves the output as it was.
            addClient(1) = 0
            read(0, 0) = 0
            shown(0) = 0
            show(-1 5 2147483647 -2147483648) = throws.IndexOutOfBoundsException
            output(0 1) = 48 -1

            # 37: numbers of one, two and three digits, with a comma between two of them.
            addClient(1) = 0
            read(0, 0 9 10 99 100 199) = 0 45 50 495 500 995
            shown(0) = 199,100,99,10,9,0
            show(0) = 17

            # 37: a star behind the block of a dirty unit in the lists 0 to 2, none in the lists of ghosts.
            addClient(1) = 0
            shape(2, 4) = 0
            write(0, 5, 1) = 0
            write(0, 30, 1) = 0
            write(0, 30, 1) = 0
            shown(0) = 5*
            shown(1) = 30*
            read(0, 50) = 250
            shown(0) = 50
            shown(2) = 5*
            shown(3) = 5
            read(0, 50 70) = 250 350
            shown(1) = 50
            shown(2) = 30*,5*
            shown(4) = 30
            flush(1) = 1
            shown(2) = 30*,5

            # 37: the longest list: 24 dirty units with numbers of three digits.
            addClient(1) = 0
            set(1, 40) = 8
            shape(2, 24) = 0
            trace("write 0 100 1;write 0 102 1;write 0 104 1;write 0 106 1;write 0 108 1;write 0 110 1;") = 6
            trace("write 0 112 1;write 0 114 1;write 0 116 1;write 0 118 1;write 0 120 1;write 0 122 1;") = 6
            trace("write 0 124 1;write 0 126 1;write 0 128 1;write 0 130 1;write 0 132 1;write 0 134 1;") = 6
            trace("write 0 136 1;write 0 138 1;write 0 140 1;write 0 142 1;write 0 144 1;write 0 146 1;") = 6
            trace("write 0 148 1;write 0 150 1;") = 2
            show(2) = 119
            output(0..4) = 49 52 54 42 44
            output(114..120) = 44 49 48 48 42 -1 -1

            # 38: NONE if there is no such byte, or nothing was written.
            output(0 1 -1 2147483647 -2147483648) = -1
            addClient(1) = 0
            read(0, 7) = 35
            output(0) = -1
            show(0) = 1
            output(0 1 -1 2147483647 -2147483648) = 55 -1 -1 -1 -1

            # 38: the output stays what it was when the list changes.
            addClient(1) = 0
            read(0, 7) = 35
            show(0) = 1
            read(0, 9) = 45
            output(0 1) = 55 -1
            undo() = 2
            output(0 1) = 55 -1

            # 39: NONE if there is none to undo, and nothing changes then.
            undo() = -1
            addClient(1) = 0
            undo() = 0
            undo() = -1
            undo() = -1
            count(6 23) = 0

            # 39: everything is as it was, but the output, the text buffer, the latest error and the saved states.
            addClient(1 2) = 0 1
            shape(2, 2) = 0
            write(0, 10, 1) = 0
            read(1, 20 30 10) = 100 150 1
            mark(ahead) = void
            trace("write 1 40 5;read 0 50;read 0 10;write 0 20 1;flush 2;read 1 60 to 70;") = 15
            trace("flush 41;") = -1
            text("flush") = 5
            show(2) = 6
            save(0) = void
            undo() = 7
            same(ahead) = true
            output(0) = 55
            truncateText(6) = throws.IllegalArgumentException
            truncateText(5) = 5
            errorCode() = 2
            restore(0) = void
            count(5) = 19

            # 40: slot is 0 or 1.
            save(-1 2 2147483647 -2147483648) = throws.IllegalArgumentException
            restore(0 1) = throws.IllegalStateException
            save(1) = void
            restore(0) = throws.IllegalStateException
            restore(1) = void
            save(0) = void
            restore(0 1) = void

            # 40: a state that is already saved there is replaced, the one in the other slot is not.
            addClient(3) = 0
            mark(a) = void
            save(0) = void
            save(1) = void
            write(0, 10, 1) = 0
            mark(b) = void
            save(0) = void
            read(0, 20) = 100
            restore(1) = void
            same(a) = true
            restore(0) = void
            same(b) = true

            # 40: the acts that can be undone are not saved, and stay as they are.
            addClient(3) = 0
            read(0, 10) = 50
            save(0) = void
            count(23) = 2
            undo() = 1
            undo() = 0
            restore(0) = void
            count(5 6 23) = 1 1 0

            # 41: slot is 0 or 1; nothing is saved at first.
            restore(-1 2 2147483647 -2147483648) = throws.IllegalArgumentException
            restore(0 1) = throws.IllegalStateException

            # 41: no act can be undone then; the next one can.
            addClient(3) = 0
            save(0) = void
            read(0, 10 20) = 50 100
            restore(0) = void
            count(23) = 0
            undo() = -1
            read(0, 10) = 50
            count(23) = 1
            undo() = 0
            undo() = -1
            count(5) = 0

            # 41: behind eight acts as well.
            addClient(3) = 0
            save(0) = void
            read(0, 10 20 30 40 50 60 70 80 90) = 50 100 150 200 250 300 350 400 450
            count(23) = 8
            restore(0) = void
            undo() = -1
            flush(1) = 0
            undo() = 0
            undo() = -1

            # 41: the state stays saved, whatever is done behind it.
            addClient(3) = 0
            shape(2, 2) = 0
            write(0, 10, 1) = 0
            read(0, 20 30) = 100 150
            mark(a) = void
            save(1) = void
            restore(1) = void
            same(a) = true
            trace("write 0 40 4;read 0 10;flush 9;read 0 50 to 60;") = 13
            addClient(1) = 1
            restore(1) = void
            same(a) = true
            restore(1) = void
            same(a) = true
            count(6) = 1

            # 41: the output, the text buffer, the latest error and the other saved state stay as they are.
            save(0) = void
            addClient(1) = 0
            read(0, 10) = 50
            save(1) = void
            show(0) = 2
            trace("flush 41;") = -1
            text("flush 1;") = 8
            restore(0) = void
            count(6) = 0
            output(0 1 2) = 49 48 -1
            errorCode() = 2
            errorPosition() = 6
            truncateText(8) = 8
            restore(1) = void
            count(6) = 1
            """;

    // ---- the lines, one after the other

    private static final Set<String> ACTS = Set.of("addClient", "setWeight", "set", "shape", "read", "write", "flush",
            "forget");

    /** A call that was made on the object; whether it threw an exception is no matter. */
    private record Call(Method method, Object[] values) {
    }

    private static int wrong = 0;
    private static int checked = 0;
    private static String sentence = "";
    private static GhostLayers x;
    private static List<Call> made;
    private static Map<String, List<Object>> seen;
    private static Map<String, List<Object>> marks;

    public static void main(String[] args) {
        String[] sections = {BLOCKS_UNITS_LISTS, CLIENTS, ACCESSES, ROOM, WRITING_BACK, SETTINGS, TRACES, UNDO,
            EXCEPTIONS, PROMISES_1_TO_10, PROMISES_11_TO_18, PROMISES_19_TO_33, PREDICTIONS, PROMISES_37_TO_41};
        int sentences = 0;
        for (String section : sections) {
            for (String line : section.split("\n")) {
                if (line.startsWith("# ")) {
                    startAfresh(line.substring(2));
                    sentences++;
                } else if (!line.isBlank()) {
                    int split = line.lastIndexOf(" =");
                    checkLine(line.substring(0, split).strip(), line.substring(split + 2).strip());
                }
            }
        }
        everyByte();
        the512thCall();
        System.out.println(wrong == 0 ? sentences + " sentences hold, in " + checked + " lines"
                : wrong + " answers are not as due");
        if (wrong != 0) {
            System.exit(1);
        }
    }

    private static void startAfresh(String newSentence) {
        sentence = newSentence;
        x = new GhostLayers();
        made = new ArrayList<>();
        marks = new HashMap<>();
        seen = look();
    }

    private static void complain(String what) {
        wrong++;
        System.out.println("\"" + sentence + "\": " + what);
    }

    private static void checkLine(String call, String due) {
        checked++;
        int open = call.indexOf('(');
        String name = call.substring(0, open);
        String inner = call.substring(open + 1, call.length() - 1);
        if (name.equals("error")) {
            startAfresh(sentence);
        }
        Map<String, List<Object>> before = seen;
        List<String> answers = answersTo(name, inner);
        String got = String.join(" ", answers);
        if (!got.equals(due) && !answers.stream().allMatch(due::equals)) {
            complain(call + " answered " + got + ", due is " + due);
        }
        seen = look();
        compareLooks(call, before, mayChange(name, answers));
        if (ACTS.contains(name) && answers.size() == 1 && !got.startsWith("throws.")) {
            compareUndone(call, before);
        }
    }

    private static List<String> answersTo(String name, String inner) {
        List<String> answers = new ArrayList<>();
        if (name.equals("text") || name.equals("trace") || name.equals("error")) {
            answers.add(answerToText(name, inner.substring(1, inner.length() - 1)));
            return answers;
        }
        for (String arguments : spreadOut(inner)) {
            answers.add(answer(name, arguments));
        }
        return answers;
    }

    /** A list of numbers in place of an argument is a call for each of them. */
    private static List<String> spreadOut(String inner) {
        List<String> calls = new ArrayList<>();
        String[] arguments = inner.split(", ");
        for (int i = 0; i < arguments.length; i++) {
            String[] ends = arguments[i].split("\\.\\.");
            List<String> numbers = new ArrayList<>(List.of(arguments[i].split(" ")));
            if (ends.length == 2) {
                numbers.clear();
                for (int k = Integer.parseInt(ends[0]); k <= Integer.parseInt(ends[1]); k++) {
                    numbers.add(String.valueOf(k));
                }
            }
            if (numbers.size() > 1) {
                for (String number : numbers) {
                    String[] one = arguments.clone();
                    one[i] = number;
                    calls.add(String.join(", ", one));
                }
                return calls;
            }
        }
        calls.add(inner);
        return calls;
    }

    private static String answer(String name, String arguments) {
        switch (name) {
            case "list":
                return blocksOf(Integer.parseInt(arguments));
            case "shown":
                return shown(Integer.parseInt(arguments));
            case "mark":
                marks.put(arguments, stateBehind(made));
                return "void";
            case "same":
                return String.valueOf(withoutActs(marks.get(arguments)).equals(withoutActs(stateBehind(made))));
            default:
                return ask(name, arguments);
        }
    }

    private static String ask(String name, String arguments) {
        String[] words = arguments.isEmpty() ? new String[0] : arguments.split(", ");
        for (Method method : GhostLayers.class.getDeclaredMethods()) {
            if (method.getName().equals(name) && method.getParameterCount() == words.length) {
                Object[] values = new Object[words.length];
                for (int i = 0; i < words.length; i++) {
                    values[i] = valueIn(words[i]);
                }
                Call call = new Call(method, values);
                made.add(call);
                if (made.size() == MOST_CALLS + 1) {
                    complain("more than " + MOST_CALLS + " calls");
                }
                return answerOf(x, call);
            }
        }
        return "no method";
    }

    private static Object valueIn(String word) {
        if (word.equals("true") || word.equals("false")) {
            return Boolean.parseBoolean(word);
        }
        return word.startsWith("0x") ? Integer.parseUnsignedInt(word.substring(2), 16) : Integer.parseInt(word);
    }

    private static String answerOf(GhostLayers object, Call call) {
        try {
            Object got = call.method.invoke(object, call.values);
            return call.method.getReturnType() == void.class ? "void" : String.valueOf(got);
        } catch (InvocationTargetException e) {
            return "throws." + e.getCause().getClass().getSimpleName();
        } catch (IllegalAccessException e) {
            return "no access";
        }
    }

    private static String blocksOf(int list) {
        List<String> blocks = new ArrayList<>();
        for (String block = ask("at", list + ", 0"); !block.equals("-1"); ) {
            blocks.add(block);
            block = ask("at", list + ", " + blocks.size());
        }
        return String.join(" ", blocks);
    }

    private static String shown(int list) {
        int length = Integer.parseInt(ask("show", String.valueOf(list)));
        StringBuilder text = new StringBuilder();
        for (int i = 0; i < length; i++) {
            text.append((char) Integer.parseInt(ask("output", String.valueOf(i))));
        }
        return ask("output", String.valueOf(length)).equals("-1") ? text.toString() : "more than " + length;
    }

    // ---- texts

    /**
     * text() appends, trace() answers what runTrace() does then, error() answers the error code and
     * position, on a new object each time.
     */
    private static String answerToText(String name, String pattern) {
        String length = append(textOf(pattern));
        if (name.equals("text")) {
            return length;
        }
        String accesses = ask("runTrace", "");
        if (name.equals("trace")) {
            return accesses;
        }
        String code = ask("errorCode", "");
        if (code.equals("0") == accesses.equals("-1")) {
            complain("runTrace() answered " + accesses + " with the error code " + code);
        }
        return code + " " + ask("errorPosition", "");
    }

    /** A bar stands for a line feed, a roof for a tab, and <x*3> for xxx. */
    private static String textOf(String pattern) {
        Matcher matcher = Pattern.compile("<([^*<>]*)\\*(\\d+)>").matcher(pattern);
        String text = matcher.replaceAll(found -> found.group(1).repeat(Integer.parseInt(found.group(2))));
        return text.replace('|', '\n').replace('^', '\t');
    }

    private static String append(String text) {
        String length = "0";
        for (int at = 0; at < text.length(); at += 4) {
            int word = 0;
            for (int k = 0; k < 4; k++) {
                word = word << 8 | (at + k < text.length() ? text.charAt(at + k) : ' ');
            }
            length = ask("appendText", String.valueOf(word));
        }
        int tooMany = (4 - text.length() % 4) % 4;
        return tooMany == 0 ? length : ask("truncateText", String.valueOf(Integer.parseInt(length) - tooMany));
    }

    // ---- what a call may change

    private static Set<String> mayChange(String name, List<String> answers) {
        if (answers.stream().allMatch(answer -> answer.startsWith("throws."))) {
            return Set.of();
        }
        if (ACTS.contains(name) || name.equals("undo") || name.equals("restore")) {
            return Set.of("state", "past");
        }
        switch (name) {
            case "show":
            case "shown":
                return Set.of("output");
            case "appendText":
            case "truncateText":
            case "text":
                return Set.of("text");
            case "runTrace":
            case "trace":
            case "error":
                boolean isError = answers.get(0).equals("-1") || name.equals("error") && !answers.get(0).equals("0 -1");
                return isError ? Set.of("text", "error") : Set.of("text", "error", "state", "past");
            case "save":
                return Set.of("saved");
            default:
                return Set.of();
        }
    }

    private static void compareLooks(String call, Map<String, List<Object>> before, Set<String> mayChange) {
        for (String part : new TreeSet<>(seen.keySet())) {
            if (!mayChange.contains(part) && before.containsKey(part) && !before.get(part).equals(seen.get(part))) {
                complain(call + " changed what it must leave: " + part);
            }
        }
    }

    private static void compareUndone(String call, Map<String, List<Object>> before) {
        if (seen.isEmpty() || before.isEmpty()) {
            return;
        }
        List<Call> path = new ArrayList<>(made);
        path.add(callOf("undo"));
        if (!withoutActs(stateBehind(path)).equals(withoutActs(before.get("state")))) {
            complain("undo() does not take back " + call);
        }
    }

    // ---- looking: the calls again on new objects, and questions behind them

    private static Call callOf(String name, Object... values) {
        for (Method method : GhostLayers.class.getDeclaredMethods()) {
            if (method.getName().equals(name)) {
                return new Call(method, values);
            }
        }
        throw new AssertionError(name);
    }

    /** Objects behind the same calls; none is asked more than an object may be. */
    private static final class Again {
        private final List<Call> path;
        private GhostLayers object;
        private int calls;

        Again(List<Call> path) {
            this.path = path;
        }

        GhostLayers next() {
            if (object == null || calls >= MOST_CALLS) {
                object = new GhostLayers();
                for (Call call : path) {
                    answerOf(object, call);
                }
                calls = path.size();
            }
            calls++;
            return object;
        }
    }

    /** All that can be seen from outside; nothing where so many calls were made that too few are left to look. */
    private static Map<String, List<Object>> look() {
        Map<String, List<Object>> parts = new HashMap<>();
        if (made.size() > 400) {
            return parts;
        }
        parts.put("state", stateBehind(made));
        parts.put("past", pastBehind(made));
        parts.put("saved", savedBehind(made));
        Again again = new Again(made);
        List<Object> output = new ArrayList<>();
        for (int i = -1; i < 122; i++) {
            output.add(again.next().output(i));
        }
        parts.put("output", output);
        parts.put("error", List.of(again.next().errorCode(), again.next().errorPosition()));
        parts.put("text", textBehind(made));
        return parts;
    }

    private static List<Object> stateBehind(List<Call> path) {
        Again again = new Again(path);
        List<Object> row = new ArrayList<>();
        for (int what = 23; what >= 0; what--) {
            row.add(again.next().count(what));
        }
        int clients = again.next().count(6);
        for (int i = 0; i < clients * 11; i++) {
            row.add(again.next().client(i / 11, i % 11));
        }
        for (int i = 0; i < 1400; i++) {
            row.add(again.next().block(i / 7, i % 7));
        }
        for (int i = 0; i < 125; i++) {
            row.add(again.next().at(i / 25, i % 25));
        }
        return row;
    }

    /** The acts that can be undone are no part of what undo() and restore() bring back. */
    private static List<Object> withoutActs(List<Object> state) {
        return state == null ? List.of("nothing") : state.subList(1, state.size());
    }

    private static List<Object> pastBehind(List<Call> path) {
        List<Object> row = new ArrayList<>();
        List<Call> longer = new ArrayList<>(path);
        int acts = new Again(path).next().count(23);
        for (int i = 0; i <= acts; i++) {
            row.add(new Again(longer).next().undo());
            longer.add(callOf("undo"));
        }
        row.addAll(stateBehind(longer));
        return row;
    }

    private static List<Object> savedBehind(List<Call> path) {
        List<Object> row = new ArrayList<>();
        for (int slot = 0; slot < 2; slot++) {
            Call restore = callOf("restore", slot);
            row.add(answerOf(new Again(path).next(), restore));
            if (row.get(row.size() - 1).equals("void")) {
                List<Call> longer = new ArrayList<>(path);
                longer.add(restore);
                row.addAll(stateBehind(longer));
            }
        }
        return row;
    }

    /** The length of the text, by what is refused, and the error that it would be. */
    private static List<Object> textBehind(List<Call> path) {
        List<Object> row = new ArrayList<>();
        row.add(answerOf(new Again(path).next(), callOf("appendText", 0)));
        Again again = new Again(path);
        for (int length = 600; length > 596; length--) {
            row.add(answerOf(again.next(), callOf("truncateText", length)));
        }
        List<Call> longer = new ArrayList<>(path);
        longer.add(callOf("runTrace"));
        again = new Again(longer);
        row.add(again.next().errorCode());
        row.add(again.next().errorPosition());
        return row;
    }

    // ---- tables that are too long to be written out

    /** Between "flush" and "1;" a space or a line feed is nothing, a digit belongs to the number, a letter to the word. */
    private static void everyByte() {
        for (int sign = 0; sign < 256; sign++) {
            startAfresh("Tokens are words (a to z), numbers (0 to 9) and the symbol ; (byte " + sign + ")");
            String text = "flush" + (char) sign + "1;";
            String due = "1 5";
            if (sign == ' ' || sign == '\n' || sign >= '0' && sign <= '3') {
                due = "0 -1";
            } else if (sign >= '4' && sign <= '9') {
                due = "2 5";
            } else if (sign >= 'a' && sign <= 'z') {
                due = "1 0";
            }
            checked++;
            append(text);
            ask("runTrace", "");
            String got = ask("errorCode", "") + " " + ask("errorPosition", "");
            if (!got.equals(due)) {
                complain("the error is " + got + ", due is " + due);
            }
        }
    }

    /** Calls that are made as the 512th one of an object, and the answers that are due there. */
    private static final String[][] AS_THE_512TH = {
        {"appendText", "0", "4"}, {"truncateText", "0", "0"}, {"truncateText", "1", "throws.IllegalArgumentException"},
        {"runTrace", "", "0"}, {"errorCode", "", "0"}, {"errorPosition", "", "-1"}, {"addClient", "1", "1"},
        {"setWeight", "0, 9", "1"}, {"set", "0, 20", "4"}, {"shape", "2, 2", "6"}, {"count", "5", "509"},
        {"count", "14", "503"}, {"count", "16", "6"}, {"count", "12", "0"}, {"count", "13", "61"},
        {"count", "21", "84"}, {"count", "23", "8"}, {"client", "0, 5", "425"}, {"client", "0, 6", "84"},
        {"client", "0, 4", "50"}, {"block", "60, 6", "83"}, {"at", "1, 0", "50"}, {"at", "1, 5", "60"},
        {"read", "0, 60", "83"}, {"write", "0, 60, 999", "1"}, {"write", "0, 60, 1000", "throws.IllegalArgumentException"},
        {"flush", "1", "0"}, {"forget", "60", "true"}, {"share", "0", "6.0"}, {"hitShare", "", "0.98821217"},
        {"order", "0", "-1"}, {"victim", "true", "60"}, {"leaving", "", "-1"}, {"oldest", "", "-1"}, {"ages", "1", "0"},
        {"ownedAt", "0, 1, 5", "60"}, {"excess", "0", "0.0"}, {"toScan", "0, 51", "3"}, {"rank", "60", "-1"},
        {"between", "1, 10, 60", "6"}, {"longest", "1", "1"}, {"differing", "", "0"}, {"stale", "0", "0"},
        {"wouldBe", "0, 70, 3", "60"}, {"ahead", "0, 160, 40, 4, 6", "148"}, {"bestLength", "0, 50, 1, 4", "2"},
        {"show", "1", "17"}, {"output", "0", "-1"}, {"undo", "", "7"}, {"save", "1", "void"},
        {"restore", "0", "throws.IllegalStateException"},
    };

    /** An object is used for 512 calls: the last one answers as the first ones do. */
    private static void the512thCall() {
        for (String[] row : AS_THE_512TH) {
            startAfresh("An object is used for at most 512 calls");
            ask("addClient", "1");
            ask("set", "1, 0");
            for (int i = 0; i < 509; i++) {
                int block = 10 * (i % 6 + 1);
                ask(block == 60 ? "write" : "read", "0, " + block + (block == 60 ? ", " + i / 6 : ""));
            }
            checked++;
            String got = ask(row[0], row[1]);
            if (made.size() != MOST_CALLS || !Objects.equals(got, row[2])) {
                complain(row[0] + "(" + row[1] + ") answered " + got + " as the call " + made.size() + ", due is " + row[2]);
            }
        }
        threeLongTraces();
    }

    /** The dearest calls there are, as many as go into 512. */
    private static void threeLongTraces() {
        startAfresh("An object is used for at most 512 calls (long ones)");
        ask("addClient", "1");
        for (int trace = 1; trace <= 3; trace++) {
            checked++;
            String got = answerToText("trace", "<read0 0to199;*40>");
            if (!got.equals("8000")) {
                complain("the trace " + trace + " did " + got + " accesses");
            }
        }
        while (made.size() < MOST_CALLS - 1) {
            ask("bestLength", "0, 160, 40, 4");
        }
        checked++;
        String got = ask("count", "5");
        if (!got.equals("24000")) {
            complain("the time is " + got + ", due is 24000");
        }
    }
}
