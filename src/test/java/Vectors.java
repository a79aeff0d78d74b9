/** Published vectors: two sides' keys and points of RFC 7748, the rest of "Cryptography in NaCl". */
final class Vectors {
    static final String ALICE_KEY = "77076d0a7318a57d3c16c17251b26645df4c2f87ebc0992ab177fba51db92c2a";
    static final String ALICE_POINT = "8520f0098930a754748b7ddcb43ef75a0dbf3a0d26381af4eba4a98eaa9b4e6a";
    static final String BOB_KEY = "5dab087e624a8a4b79e17f8b83800ee66f3bb1292618b6fd1c2f8b27ff88e0eb";
    static final String BOB_POINT = "de9edb7d7b7dc1b4d35b61c2ece435373f8343c85b78674dadfc7e146f882b4f";
    static final String SHARED = "4a5d9d5ba4ce2de1728e3bf480350f25e07e21c947d19e3376f09b3c1e161742";
    static final String AGREED = "1b27556473e985d462cd51197a9a46c76009549eac6474f206c4ee0844f68389";
    static final String NONCE = "69696ee955b62b73cd62bda875fc73d68219e0036b7a0b37";
    static final String STREAM_KEY = "dc908dda0b9344a953629b733820778880f3ceb421bb61b91cbd4c3e66256ce4";
    static final String STREAM = "eea6a7251c1e72916d11c2cb214d3c252539121d8e234e652d651fa4c8cff880";
    static final String MESSAGE = "be075fc53c81f2d5cf141316ebeb0c7b5228c52a4c62cbd44b66849b64244ffc"
            + "e5ecbaaf33bd751a1ac728d45e6c61296cdc3c01233561f41db66cce314adb31"
            + "0e3be8250c46f06dceea3a7fa1348057e2f6556ad6b1318a024a838f21af1fde";
    static final String HIDDEN = "8e993b9f48681273c29650ba32fc76ce48332ea7164d96a4476fb8c531a1186a"
            + "c0dfc17c98dce87b4da7f011ec48c97271d2c20f9b928fe2270d6fb863d51738"
            + "b48eeee314a7cc8ab932164548e526ae90224368517acfeabd6bb3732bc0e9da";

    private Vectors() {
    }
}
